/-! short forms: a world, a contract, a call, a return; rows over natural numbers -/
def nestW : List Cond := [.fieldLinkNest "LentTerms" 109 "LentTerms$Counter" "said" "LLentTerms$Rows;" "LentTerms", .fieldLinkNest "LentTerms" 169 "LentTerms$Counter" "wants" "LLentTerms$Rows;" "LentTerms", .fieldLinkNest "LentTerms" 208 "LentTerms$Counter" "sayings" "LLentTerms$Rows;" "LentTerms", .fieldLinkNest "LentTerms" 249 "LentTerms$Counter" "rules" "LLentTerms$Rows;" "LentTerms", .fieldLinkNest "LentTerms" 75 "LentTerms$Counter" "terms" "LLentTerms$Rows;" "LentTerms", .fieldLinkNest "LentTerms" 99 "LentTerms$Counter" "loans" "LLentTerms$Rows;" "LentTerms", .fieldLinkNest "LentTerms$Ring" 29 "LentTerms$Counter" "terms" "LLentTerms$Rows;" "LentTerms", .fieldLinkNest "LentTerms$Schedule" 39 "LentTerms$Counter" "terms" "LLentTerms$Rows;" "LentTerms", .fieldLinkNest "LentTerms$Schedule" 49 "LentTerms$Counter" "wants" "LLentTerms$Rows;" "LentTerms", .fieldLinkNest "LentTerms$Talk" 29 "LentTerms$Counter" "rules" "LLentTerms$Rows;" "LentTerms", .fieldLinkNest "LentTerms$Talk" 78 "LentTerms$Counter" "sayings" "LLentTerms$Rows;" "LentTerms", .methodLinkNest "LentTerms" 11 ⟨"LentTerms$Text", "<init>", "()V"⟩ "LentTerms", .methodLinkNest "LentTerms" 18 ⟨"LentTerms$Talk", "<init>", "()V"⟩ "LentTerms", .methodLinkNest "LentTerms" 25 ⟨"LentTerms$Schedule", "<init>", "()V"⟩ "LentTerms", .methodLinkNest "LentTerms" 32 ⟨"LentTerms$Deal", "<init>", "()V"⟩ "LentTerms", .methodLinkNest "LentTerms" 43 ⟨"LentTerms$Counter", "<init>", "()V"⟩ "LentTerms", .methodLinkNest "LentTerms$Counter" 142 ⟨"LentTerms", "hasBit", "(II)Z"⟩ "LentTerms", .methodLinkNest "LentTerms$Counter" 85 ⟨"LentTerms", "isPerson", "(I)Z"⟩ "LentTerms", .methodLinkNest "LentTerms$Counter" 92 ⟨"LentTerms", "isHour", "(I)Z"⟩ "LentTerms", .methodLinkNest "LentTerms$Deal" 43 ⟨"LentTerms", "isPerson", "(I)Z"⟩ "LentTerms", .methodLinkNest "LentTerms$Ring" 39 ⟨"LentTerms", "hasBit", "(II)Z"⟩ "LentTerms", .methodLinkNest "LentTerms$Schedule" 70 ⟨"LentTerms", "hasBit", "(II)Z"⟩ "LentTerms", .methodLinkNest "LentTerms$Talk" 25 ⟨"LentTerms", "hasBit", "(II)Z"⟩ "LentTerms"]
def nestOk (w : Cond) : Prop := (∃ (a : String) (i : Nat) (b n d h : String), w = .fieldLinkNest a i b n d h) ∨ ∃ (a : String) (i : Nat) (x : MethodName) (h : String), w = .methodLinkNest a i x h
theorem nestW_ok : ∀ w ∈ nestW, nestOk w := List.forall_mem_cons.mpr ⟨Or.inl ⟨_, _, _, _, _, _, rfl⟩, List.forall_mem_cons.mpr ⟨Or.inl ⟨_, _, _, _, _, _, rfl⟩, List.forall_mem_cons.mpr ⟨Or.inl ⟨_, _, _, _, _, _, rfl⟩, List.forall_mem_cons.mpr ⟨Or.inl ⟨_, _, _, _, _, _, rfl⟩, List.forall_mem_cons.mpr ⟨Or.inl ⟨_, _, _, _, _, _, rfl⟩, List.forall_mem_cons.mpr ⟨Or.inl ⟨_, _, _, _, _, _, rfl⟩, List.forall_mem_cons.mpr ⟨Or.inl ⟨_, _, _, _, _, _, rfl⟩, List.forall_mem_cons.mpr ⟨Or.inl ⟨_, _, _, _, _, _, rfl⟩, List.forall_mem_cons.mpr ⟨Or.inl ⟨_, _, _, _, _, _, rfl⟩, List.forall_mem_cons.mpr ⟨Or.inl ⟨_, _, _, _, _, _, rfl⟩, List.forall_mem_cons.mpr ⟨Or.inl ⟨_, _, _, _, _, _, rfl⟩, List.forall_mem_cons.mpr ⟨Or.inr ⟨_, _, _, _, rfl⟩, List.forall_mem_cons.mpr ⟨Or.inr ⟨_, _, _, _, rfl⟩, List.forall_mem_cons.mpr ⟨Or.inr ⟨_, _, _, _, rfl⟩, List.forall_mem_cons.mpr ⟨Or.inr ⟨_, _, _, _, rfl⟩, List.forall_mem_cons.mpr ⟨Or.inr ⟨_, _, _, _, rfl⟩, List.forall_mem_cons.mpr ⟨Or.inr ⟨_, _, _, _, rfl⟩, List.forall_mem_cons.mpr ⟨Or.inr ⟨_, _, _, _, rfl⟩, List.forall_mem_cons.mpr ⟨Or.inr ⟨_, _, _, _, rfl⟩, List.forall_mem_cons.mpr ⟨Or.inr ⟨_, _, _, _, rfl⟩, List.forall_mem_cons.mpr ⟨Or.inr ⟨_, _, _, _, rfl⟩, List.forall_mem_cons.mpr ⟨Or.inr ⟨_, _, _, _, rfl⟩, List.forall_mem_cons.mpr ⟨Or.inr ⟨_, _, _, _, rfl⟩, fun _ h => absurd h List.not_mem_nil⟩⟩⟩⟩⟩⟩⟩⟩⟩⟩⟩⟩⟩⟩⟩⟩⟩⟩⟩⟩⟩⟩⟩

abbrev tyL (tA : Nat → ClassId) : List (ClassId × FieldType) := [(tA 0, .int), (tA 1, .boolean), (tA 2, .object "LentTerms$Counter")]
def kk (G : va_G) (tA : Nat → ClassId) (U : State) : Prop := va_K G vwCl (tyL tA) U ∧ ∀ w ∈ nestW, va_Nw w U
theorem kk.warm {G : va_G} {tA : Nat → ClassId} {s U : State} (h : kk G tA s) (hW : s.WarmedH U.vm) : kk G tA U := by
  refine ⟨va_K.moved hW.alike h.1, fun w hw => ?_⟩
  have h2 := h.2 w hw
  rcases nestW_ok w hw with ⟨a, i, b, n, d, q, rfl⟩ | ⟨a, i, x, q, rfl⟩
  · exact va_Nw.warmF hW h2
  · exact va_Nw.warmM hW h2
theorem kk.same {G : va_G} {tA : Nat → ClassId} {s U : State} (h : kk G tA s) (hv : s.vm = U.vm) : kk G tA U := by
  refine ⟨va_K.moved (by rw [hv]; exact Vm.Alike.refl U.vm) h.1, fun w hw => ?_⟩
  have h2 := h.2 w hw
  rcases nestW_ok w hw with ⟨a, i, b, n, d, q, rfl⟩ | ⟨a, i, x, q, rfl⟩
  · exact va_Nw.same rfl hv h2
  · exact va_Nw.same rfl hv h2
theorem kk.nest {G : va_G} {tA : Nat → ClassId} {s : State} (h : kk G tA s) {args : Array Value} (k : Nat) {w : Cond} (hw : nestW[k]? = some w) : w.before args s = true := by
  have hm := List.mem_of_getElem? hw
  have h2 := h.2 w hm
  rcases nestW_ok w hm with ⟨a, i, b, n, d, q, rfl⟩ | ⟨a, i, x, q, rfl⟩
  · exact va_Nw.use rfl h2
  · exact va_Nw.use rfl h2
def cP (G : va_G) (tA : Nat → ClassId) (w : va_W) (sz : Nat) (U : State) : Prop := U.heap.size = sz ∧ va_P G vwCl w U.heap ∧ kk G tA U ∧ va_D (fun _ => True) w
def cQ (G : va_G) (A : Nat → Prop) (w : va_W) (t : State) : Prop := va_P G vwCl w t.heap ∧ va_D A w
def CtI {S : Type} (l : Launch) (y : MethodName) (wsc : List Cond) (rm : Room) (G : va_G) (tA : Nat → ClassId) (av : List Value) (w : va_W) (post : Int32 → S → Prop) (w1 : S → va_W) (mc ms : Nat) : Prop := ∀ sz : Nat, Met l y wsc rm (va_Pc av (cP G tA w sz)) (va_Qi post (fun u => cQ G (va_A w sz) (w1 u)) (va_A w sz)) mc ms (va_A w sz)
def CtL {S : Type} (l : Launch) (y : MethodName) (wsc : List Cond) (rm : Room) (G : va_G) (tA : Nat → ClassId) (av : List Value) (w : va_W) (post : Int64 → S → Prop) (w1 : S → va_W) (mc ms : Nat) : Prop := ∀ sz : Nat, Met l y wsc rm (va_Pc av (cP G tA w sz)) (va_Ql post (fun u => cQ G (va_A w sz) (w1 u)) (va_A w sz)) mc ms (va_A w sz)
def CtV {S : Type} (l : Launch) (y : MethodName) (wsc : List Cond) (rm : Room) (G : va_G) (tA : Nat → ClassId) (av : List Value) (w : va_W) (post : S → Prop) (w1 : S → va_W) (mc ms : Nat) : Prop := ∀ sz : Nat, Met l y wsc rm (va_Pc av (cP G tA w sz)) (va_Qv post (fun u => cQ G (va_A w sz) (w1 u)) (va_A w sz)) mc ms (va_A w sz)
theorem cP_blind {G : va_G} {tA : Nat → ClassId} {w : va_W} {sz : Nat} {av : List Value} : FrameBlind (va_Pc av (cP G tA w sz)) := fun a U g mk q => by
  obtain ⟨q0, q1, q2, q3, q4⟩ := q
  exact ⟨q0, q1, q2, q3.same rfl, q4⟩
/-- some of a world's cells, by their places -/
theorem P_of {G : va_G} {ws wc : va_W} {H : Heap} (h : va_P G vwCl ws H) {isC : List Nat} (hC : isC.map (fun i => ws[i]?) = wc.map some) : va_P G vwCl wc H := by
  intro k q hk
  have h1 : (isC.map (fun i => ws[i]?))[k]? = some (some q) := by rw [hC, List.getElem?_map, hk]; rfl
  rw [List.getElem?_map] at h1
  cases hi : isC[k]? with
  | none => rw [hi] at h1; cases h1
  | some i => rw [hi] at h1; exact h i q (Option.some.inj h1)
theorem D_of {A B : Nat → Prop} {ws wc : va_W} (h : va_D A ws) {isC : List Nat} (hC : isC.map (fun i => ws[i]?) = wc.map some) (hn : isC.Nodup) (hB : ∀ q, A q → B q) : va_D B wc := by
  have at' : ∀ (k : Nat) (q : Nat × va_E), wc[k]? = some q → ∃ i, isC[k]? = some i ∧ ws[i]? = some q := by
    intro k q hk
    have h1 : (isC.map (fun i => ws[i]?))[k]? = some (some q) := by rw [hC, List.getElem?_map, hk]; rfl
    rw [List.getElem?_map] at h1
    cases hi : isC[k]? with
    | none => rw [hi] at h1; cases h1
    | some i => rw [hi] at h1; exact ⟨i, rfl, Option.some.inj h1⟩
  refine ⟨fun i j p q hp hq e => ?_, fun k q hk => ?_⟩
  · obtain ⟨a, ha, ha2⟩ := at' i p hp
    obtain ⟨b, hb, hb2⟩ := at' j q hq
    have hab := h.1 a b p q ha2 hb2 e
    subst hab
    have hi : i < isC.length := (List.getElem?_eq_some_iff.mp ha).1
    exact (List.getElem?_inj hi hn).mp (ha.trans hb.symm)
  · obtain ⟨i, -, hi⟩ := at' k q hk
    exact hB _ (h.2 i q hi)
def putL : va_W → List Nat → va_W → va_W
  | ws, i :: is, x :: xs => putL (ws.set i x) is xs
  | ws, _, _ => ws
theorem putL_get : ∀ (is : List Nat) (xs ws : va_W) (k : Nat) (q : Nat × va_E), (putL ws is xs)[k]? = some q → (∃ j : Nat, is[j]? = some k ∧ xs[j]? = some q) ∨ ((∀ j : Nat, is[j]? = some k → xs.length ≤ j) ∧ ws[k]? = some q) := by
  intro is
  induction is with
  | nil => intro xs ws k q h; cases xs <;> exact Or.inr ⟨fun j hj => by simp at hj, h⟩
  | cons i is ih =>
    intro xs ws k q h
    cases xs with
    | nil => exact Or.inr ⟨fun j _ => Nat.zero_le _, h⟩
    | cons x xs =>
      rcases ih xs (ws.set i x) k q h with ⟨j, h1, h2⟩ | ⟨h1, h2⟩
      · exact Or.inl ⟨j + 1, h1, h2⟩
      · rw [List.getElem?_set] at h2
        by_cases e : i = k
        · subst e
          simp only [if_true] at h2
          split at h2
          · exact Or.inl ⟨0, rfl, h2⟩
          · cases h2
        · rw [if_neg e] at h2
          refine Or.inr ⟨fun j hj => ?_, h2⟩
          cases j with
          | zero => exact absurd (Option.some.inj hj) e
          | succ j => exact Nat.succ_le_succ (h1 j hj)
theorem D_same {A : Nat → Prop} {ws ws' : va_W} (h : va_D A ws) (e : ws'.map (fun q => q.1) = ws.map (fun q => q.1)) : va_D A ws' := by
  have at' : ∀ (k : Nat) (q : Nat × va_E), ws'[k]? = some q → ∃ r, ws[k]? = some r ∧ r.1 = q.1 := by
    intro k q hk
    have h1 : (ws'.map (fun q => q.1))[k]? = some q.1 := by rw [List.getElem?_map, hk]; rfl
    rw [e, List.getElem?_map] at h1
    cases hr : ws[k]? with
    | none => rw [hr] at h1; cases h1
    | some r => rw [hr] at h1; exact ⟨r, rfl, Option.some.inj h1⟩
  refine ⟨fun i j p q hp hq e => ?_, fun k q hk => ?_⟩
  · obtain ⟨a, ha, ha2⟩ := at' i p hp
    obtain ⟨b, hb, hb2⟩ := at' j q hq
    exact h.1 i j a b ha hb (by rw [ha2, hb2, e])
  · obtain ⟨a, ha, ha2⟩ := at' k q hk
    rw [← ha2]; exact h.2 k a ha
/-- behind a call that kept its cells in their places -/
theorem P_put {G : va_G} {A0 : Nat → Prop} {ws wc w1 : va_W} {H H1 : Heap} (hP : va_P G vwCl ws H) (hD : va_D A0 ws) {isC : List Nat} (hC : isC.map (fun i => ws[i]?) = wc.map some) (hk : ∀ q : Nat, q < H.size → ¬ va_A wc H.size q → H1[q]? = H[q]?) (hP1 : va_P G vwCl w1 H1) (hlen : w1.length = isC.length) : va_P G vwCl (putL ws isC w1) H1 := by
  intro k q hq
  rcases putL_get _ _ _ _ _ hq with ⟨j, h1, h2⟩ | ⟨h1, h2⟩
  · exact hP1 j q h2
  · have hat := hP k q h2
    refine va_at.kept hat (hk q.1 (va_at.lt hat) ?_)
    rintro (⟨j, e, hj⟩ | hj)
    · have h3 : (isC.map (fun i => ws[i]?))[j]? = some (some (q.1, e)) := by rw [hC, List.getElem?_map, hj]; rfl
      rw [List.getElem?_map] at h3
      cases hi : isC[j]? with
      | none => rw [hi] at h3; cases h3
      | some i =>
        rw [hi] at h3
        have h4 := hD.1 i k _ _ (Option.some.inj h3) h2 rfl
        subst h4
        have := h1 j hi
        have hj2 : j < isC.length := (List.getElem?_eq_some_iff.mp hi).1
        omega
    · exact absurd (va_at.lt hat) (Nat.not_lt.mpr hj)
theorem P_ro {G : va_G} {A0 : Nat → Prop} {ws wc : va_W} {H H1 : Heap} (hP : va_P G vwCl ws H) (hD : va_D A0 ws) {isC : List Nat} (hC : isC.map (fun i => ws[i]?) = wc.map some) (hk : ∀ q : Nat, q < H.size → ¬ va_A wc H.size q → H1[q]? = H[q]?) (hP1 : va_P G vwCl wc H1) : va_P G vwCl ws H1 := by
  intro k q hq
  have hat := hP k q hq
  by_cases hin : ∃ j : Nat, isC[j]? = some k
  · obtain ⟨j, hj⟩ := hin
    have h3 : (wc.map some)[j]? = some (some q) := by rw [← hC, List.getElem?_map, hj]; exact congrArg some hq
    rw [List.getElem?_map] at h3
    cases hi : wc[j]? with
    | none => rw [hi] at h3; cases h3
    | some x => rw [hi] at h3; have h5 := Option.some.inj (Option.some.inj h3); subst h5; exact hP1 j _ hi
  · refine va_at.kept hat (hk q.1 (va_at.lt hat) ?_)
    rintro (⟨j, e, hj⟩ | hj)
    · have h3 : (isC.map (fun i => ws[i]?))[j]? = some (some (q.1, e)) := by rw [hC, List.getElem?_map, hj]; rfl
      rw [List.getElem?_map] at h3
      cases hi : isC[j]? with
      | none => rw [hi] at h3; cases h3
      | some i =>
        rw [hi] at h3
        have h4 := hD.1 i k _ _ (Option.some.inj h3) hq rfl
        subst h4
        exact hin ⟨j, hi⟩
    · exact absurd (va_at.lt hat) (Nat.not_lt.mpr hj)
theorem F_of {A0 : Nat → Prop} {ws wc : va_W} {H0 H : Heap} {locs : List Loc} (hD : va_D A0 ws) (hS : va_S A0 H0 H locs) (hA : ∀ q, H0.size ≤ q → A0 q) {isC : List Nat} (hC : isC.map (fun i => ws[i]?) = wc.map some) : ∀ q, va_A wc H.size q → A0 q := va_free hD hS hA isC hC

section LIBC
variable {p : Program} {l : Launch} {e : Env} {R : Room} {s : State} {m : MethodId} {args : Array Value} {below : List Frame} {meth : Method} {c : Code} {H : Heap} {locs : List Loc} {cells slots : Nat} {Q : State → Prop} {pc : Nat} {ls : Array Slot} {rest st0 : List Value} {cc : ByteArray}
variable {G : va_G} {tA : Nat → ClassId} {ws wc : va_W} {A0 : Nat → Prop} {H0 : Heap} {a : Array Value}
theorem roI {S : Type} {post : Int32 → S → Prop} {w1 : S → va_W} (hP : va_P G vwCl ws H) (hD : va_D A0 ws) (hS : va_S A0 H0 H locs) (hA : ∀ q, H0.size ≤ q → A0 q) (isC : List Nat) (hC : isC.map (fun i => ws[i]?) = wc.map some) (hr : va_Run p l e R s m args below meth c H locs cells slots 0 0 (F0 m pc ls st0) rest (va_Qi post (fun u => cQ G (va_A wc H.size) (w1 u)) (va_A wc H.size) a) (va_A wc H.size)) (hw : ∀ u, w1 u = wc) (k : ∀ (r : Int32) (u : S) (H1 : Heap) (locs1 : List Loc), post r u → va_P G vwCl ws H1 → va_S A0 H0 H1 locs1 → W p l e R s m args below meth c H1 locs1 cells slots Q (F0 m (pc + 3) ls (.int r :: rest))) : W p l e R s m args below meth c H locs cells slots Q (F0 m pc ls st0) := by
  have hF := F_of hD hS hA hC
  refine va_calli hr hS (fun q _ h => hF q h) hF (fun r u t H1 locs1 ht hvm hw2 hB hz1 hk1 hS1 => ?_)
  obtain ⟨hP1, hD1⟩ := hB
  rw [ht, hw u] at hP1
  exact k r u H1 locs1 hw2 (P_ro hP hD hC hk1 hP1) hS1
theorem rwI {S : Type} {post : Int32 → S → Prop} {w1 : S → va_W} (hP : va_P G vwCl ws H) (hD : va_D A0 ws) (hS : va_S A0 H0 H locs) (hA : ∀ q, H0.size ≤ q → A0 q) (isC : List Nat) (hC : isC.map (fun i => ws[i]?) = wc.map some) (hr : va_Run p l e R s m args below meth c H locs cells slots 0 0 (F0 m pc ls st0) rest (va_Qi post (fun u => cQ G (va_A wc H.size) (w1 u)) (va_A wc H.size) a) (va_A wc H.size)) (ws2 : S → va_W) (hlen : ∀ u, (w1 u).length = isC.length) (hset : ∀ u, putL ws isC (w1 u) = ws2 u) (hfst : ∀ u, (ws2 u).map (fun q => q.1) = ws.map (fun q => q.1)) (k : ∀ (r : Int32) (u : S) (H1 : Heap) (locs1 : List Loc), post r u → va_P G vwCl (ws2 u) H1 → va_D A0 (ws2 u) → va_S A0 H0 H1 locs1 → W p l e R s m args below meth c H1 locs1 cells slots Q (F0 m (pc + 3) ls (.int r :: rest))) : W p l e R s m args below meth c H locs cells slots Q (F0 m pc ls st0) := by
  have hF := F_of hD hS hA hC
  refine va_calli hr hS (fun q _ h => hF q h) hF (fun r u t H1 locs1 ht hvm hw2 hB hz1 hk1 hS1 => ?_)
  obtain ⟨hP1, hD1⟩ := hB
  rw [ht] at hP1
  have h9 := P_put hP hD hC hk1 hP1 (hlen u)
  rw [hset u] at h9
  exact k r u H1 locs1 hw2 h9 (D_same hD (hfst u)) hS1
theorem mkI {S : Type} {post : Int32 → S → Prop} {w1 : S → va_W} {wr : va_W} {mc ms : Nat} (hP : va_P G vwCl ws H) (hD : va_D A0 ws) (hS : va_S A0 H0 H locs) (hA : ∀ q, H0.size ≤ q → A0 q) (isC isR : List Nat) (hC : isC.map (fun i => ws[i]?) = wc.map some) (hR : isR.map (fun i => ws[i]?) = wr.map some) (hn : va_nd isR = true) (hdis : ∀ i ∈ isR, i ∉ isC) (hr : va_Run p l e R s m args below meth c H locs cells slots mc ms (F0 m pc ls st0) rest (va_Qi post (fun u => cQ G (va_A wc H.size) (w1 u)) (va_A wc H.size) a) (va_A wc H.size)) (k : ∀ (r : Int32) (u : S) (H1 : Heap) (locs1 : List Loc), post r u → va_P G vwCl (wr ++ w1 u) H1 → va_D A0 (wr ++ w1 u) → va_S A0 H0 H1 locs1 → W p l e R s m args below meth c H1 locs1 (cells + mc) (slots + ms) Q (F0 m (pc + 3) ls (.int r :: rest))) : W p l e R s m args below meth c H locs cells slots Q (F0 m pc ls st0) := by
  have hF := F_of hD hS hA hC
  refine va_calli hr hS (fun q _ h => hF q h) hF (fun r u t H1 locs1 ht hvm hw2 hB hz1 hk1 hS1 => ?_)
  obtain ⟨hP1, hD1⟩ := hB
  rw [ht] at hP1
  obtain ⟨h9, h8⟩ := va_join hP hD isC isR hC hR hn hdis hk1 hF hP1 hD1
  exact k r u H1 locs1 hw2 h9 h8 hS1
theorem roL {S : Type} {post : Int64 → S → Prop} {w1 : S → va_W} (hP : va_P G vwCl ws H) (hD : va_D A0 ws) (hS : va_S A0 H0 H locs) (hA : ∀ q, H0.size ≤ q → A0 q) (isC : List Nat) (hC : isC.map (fun i => ws[i]?) = wc.map some) (hr : va_Run p l e R s m args below meth c H locs cells slots 0 0 (F0 m pc ls st0) rest (va_Ql post (fun u => cQ G (va_A wc H.size) (w1 u)) (va_A wc H.size) a) (va_A wc H.size)) (hw : ∀ u, w1 u = wc) (k : ∀ (r : Int64) (u : S) (H1 : Heap) (locs1 : List Loc), post r u → va_P G vwCl ws H1 → va_S A0 H0 H1 locs1 → W p l e R s m args below meth c H1 locs1 cells slots Q (F0 m (pc + 3) ls (.long r :: rest))) : W p l e R s m args below meth c H locs cells slots Q (F0 m pc ls st0) := by
  have hF := F_of hD hS hA hC
  refine va_calll hr hS (fun q _ h => hF q h) hF (fun r u t H1 locs1 ht hvm hw2 hB hz1 hk1 hS1 => ?_)
  obtain ⟨hP1, hD1⟩ := hB
  rw [ht, hw u] at hP1
  exact k r u H1 locs1 hw2 (P_ro hP hD hC hk1 hP1) hS1
theorem rwL {S : Type} {post : Int64 → S → Prop} {w1 : S → va_W} (hP : va_P G vwCl ws H) (hD : va_D A0 ws) (hS : va_S A0 H0 H locs) (hA : ∀ q, H0.size ≤ q → A0 q) (isC : List Nat) (hC : isC.map (fun i => ws[i]?) = wc.map some) (hr : va_Run p l e R s m args below meth c H locs cells slots 0 0 (F0 m pc ls st0) rest (va_Ql post (fun u => cQ G (va_A wc H.size) (w1 u)) (va_A wc H.size) a) (va_A wc H.size)) (ws2 : S → va_W) (hlen : ∀ u, (w1 u).length = isC.length) (hset : ∀ u, putL ws isC (w1 u) = ws2 u) (hfst : ∀ u, (ws2 u).map (fun q => q.1) = ws.map (fun q => q.1)) (k : ∀ (r : Int64) (u : S) (H1 : Heap) (locs1 : List Loc), post r u → va_P G vwCl (ws2 u) H1 → va_D A0 (ws2 u) → va_S A0 H0 H1 locs1 → W p l e R s m args below meth c H1 locs1 cells slots Q (F0 m (pc + 3) ls (.long r :: rest))) : W p l e R s m args below meth c H locs cells slots Q (F0 m pc ls st0) := by
  have hF := F_of hD hS hA hC
  refine va_calll hr hS (fun q _ h => hF q h) hF (fun r u t H1 locs1 ht hvm hw2 hB hz1 hk1 hS1 => ?_)
  obtain ⟨hP1, hD1⟩ := hB
  rw [ht] at hP1
  have h9 := P_put hP hD hC hk1 hP1 (hlen u)
  rw [hset u] at h9
  exact k r u H1 locs1 hw2 h9 (D_same hD (hfst u)) hS1
theorem mkL {S : Type} {post : Int64 → S → Prop} {w1 : S → va_W} {wr : va_W} {mc ms : Nat} (hP : va_P G vwCl ws H) (hD : va_D A0 ws) (hS : va_S A0 H0 H locs) (hA : ∀ q, H0.size ≤ q → A0 q) (isC isR : List Nat) (hC : isC.map (fun i => ws[i]?) = wc.map some) (hR : isR.map (fun i => ws[i]?) = wr.map some) (hn : va_nd isR = true) (hdis : ∀ i ∈ isR, i ∉ isC) (hr : va_Run p l e R s m args below meth c H locs cells slots mc ms (F0 m pc ls st0) rest (va_Ql post (fun u => cQ G (va_A wc H.size) (w1 u)) (va_A wc H.size) a) (va_A wc H.size)) (k : ∀ (r : Int64) (u : S) (H1 : Heap) (locs1 : List Loc), post r u → va_P G vwCl (wr ++ w1 u) H1 → va_D A0 (wr ++ w1 u) → va_S A0 H0 H1 locs1 → W p l e R s m args below meth c H1 locs1 (cells + mc) (slots + ms) Q (F0 m (pc + 3) ls (.long r :: rest))) : W p l e R s m args below meth c H locs cells slots Q (F0 m pc ls st0) := by
  have hF := F_of hD hS hA hC
  refine va_calll hr hS (fun q _ h => hF q h) hF (fun r u t H1 locs1 ht hvm hw2 hB hz1 hk1 hS1 => ?_)
  obtain ⟨hP1, hD1⟩ := hB
  rw [ht] at hP1
  obtain ⟨h9, h8⟩ := va_join hP hD isC isR hC hR hn hdis hk1 hF hP1 hD1
  exact k r u H1 locs1 hw2 h9 h8 hS1
theorem roV {S : Type} {post : S → Prop} {w1 : S → va_W} (hP : va_P G vwCl ws H) (hD : va_D A0 ws) (hS : va_S A0 H0 H locs) (hA : ∀ q, H0.size ≤ q → A0 q) (isC : List Nat) (hC : isC.map (fun i => ws[i]?) = wc.map some) (hr : va_Run p l e R s m args below meth c H locs cells slots 0 0 (F0 m pc ls st0) rest (va_Qv post (fun u => cQ G (va_A wc H.size) (w1 u)) (va_A wc H.size) a) (va_A wc H.size)) (hw : ∀ u, w1 u = wc) (k : ∀ (u : S) (H1 : Heap) (locs1 : List Loc), post u → va_P G vwCl ws H1 → va_S A0 H0 H1 locs1 → W p l e R s m args below meth c H1 locs1 cells slots Q (F0 m (pc + 3) ls rest)) : W p l e R s m args below meth c H locs cells slots Q (F0 m pc ls st0) := by
  have hF := F_of hD hS hA hC
  refine va_callv hr hS (fun q _ h => hF q h) hF (fun u t H1 locs1 ht hvm hw2 hB hz1 hk1 hS1 => ?_)
  obtain ⟨hP1, hD1⟩ := hB
  rw [ht, hw u] at hP1
  exact k u H1 locs1 hw2 (P_ro hP hD hC hk1 hP1) hS1
theorem rwV {S : Type} {post : S → Prop} {w1 : S → va_W} (hP : va_P G vwCl ws H) (hD : va_D A0 ws) (hS : va_S A0 H0 H locs) (hA : ∀ q, H0.size ≤ q → A0 q) (isC : List Nat) (hC : isC.map (fun i => ws[i]?) = wc.map some) (hr : va_Run p l e R s m args below meth c H locs cells slots 0 0 (F0 m pc ls st0) rest (va_Qv post (fun u => cQ G (va_A wc H.size) (w1 u)) (va_A wc H.size) a) (va_A wc H.size)) (ws2 : S → va_W) (hlen : ∀ u, (w1 u).length = isC.length) (hset : ∀ u, putL ws isC (w1 u) = ws2 u) (hfst : ∀ u, (ws2 u).map (fun q => q.1) = ws.map (fun q => q.1)) (k : ∀ (u : S) (H1 : Heap) (locs1 : List Loc), post u → va_P G vwCl (ws2 u) H1 → va_D A0 (ws2 u) → va_S A0 H0 H1 locs1 → W p l e R s m args below meth c H1 locs1 cells slots Q (F0 m (pc + 3) ls rest)) : W p l e R s m args below meth c H locs cells slots Q (F0 m pc ls st0) := by
  have hF := F_of hD hS hA hC
  refine va_callv hr hS (fun q _ h => hF q h) hF (fun u t H1 locs1 ht hvm hw2 hB hz1 hk1 hS1 => ?_)
  obtain ⟨hP1, hD1⟩ := hB
  rw [ht] at hP1
  have h9 := P_put hP hD hC hk1 hP1 (hlen u)
  rw [hset u] at h9
  exact k u H1 locs1 hw2 h9 (D_same hD (hfst u)) hS1
theorem mkV {S : Type} {post : S → Prop} {w1 : S → va_W} {wr : va_W} {mc ms : Nat} (hP : va_P G vwCl ws H) (hD : va_D A0 ws) (hS : va_S A0 H0 H locs) (hA : ∀ q, H0.size ≤ q → A0 q) (isC isR : List Nat) (hC : isC.map (fun i => ws[i]?) = wc.map some) (hR : isR.map (fun i => ws[i]?) = wr.map some) (hn : va_nd isR = true) (hdis : ∀ i ∈ isR, i ∉ isC) (hr : va_Run p l e R s m args below meth c H locs cells slots mc ms (F0 m pc ls st0) rest (va_Qv post (fun u => cQ G (va_A wc H.size) (w1 u)) (va_A wc H.size) a) (va_A wc H.size)) (k : ∀ (u : S) (H1 : Heap) (locs1 : List Loc), post u → va_P G vwCl (wr ++ w1 u) H1 → va_D A0 (wr ++ w1 u) → va_S A0 H0 H1 locs1 → W p l e R s m args below meth c H1 locs1 (cells + mc) (slots + ms) Q (F0 m (pc + 3) ls rest)) : W p l e R s m args below meth c H locs cells slots Q (F0 m pc ls st0) := by
  have hF := F_of hD hS hA hC
  refine va_callv hr hS (fun q _ h => hF q h) hF (fun u t H1 locs1 ht hvm hw2 hB hz1 hk1 hS1 => ?_)
  obtain ⟨hP1, hD1⟩ := hB
  rw [ht] at hP1
  obtain ⟨h9, h8⟩ := va_join hP hD isC isR hC hR hn hdis hk1 hF hP1 hD1
  exact k u H1 locs1 hw2 h9 h8 hS1
end LIBC
section LIBR
variable {p : Program} {l : Launch} {e : Env} {R : Room} {s : State} {m : MethodId} {args : Array Value} {below : List Frame} {meth : Method} {c : Code} {H : Heap} {locs : List Loc} {cells slots : Nat} {rest : List Value} {g : JFrame}{cc : ByteArray}
variable {G : va_G} {tA : Nat → ClassId} {ws wc : va_W} {A0 : Nat → Prop} {nL mc ms n index maxL : Nat} {y : MethodName} {bytes : ByteArray} {ret : Option FieldType} {wsc : List Cond} {rm : Room} {Qc : Array Value → State → Outcome → State → Prop} {free : Addr → Prop} {Ts : List Cond} {own C host : String} {b ci N : Nat} {T : u_T} {fs : List Value} {As : List Value}
theorem runV (S : CallFix p m c cc nL s args Ts own) (hk : kk G tA s) (hP : va_P G vwCl ws H) (hD : va_D A0 ws) {isC : List Nat} (hC : isC.map (fun i => ws[i]?) = wc.map some) (hnd : isC.Nodup) (hM : Met l y wsc rm (va_Pc (.ref b :: As) (cP G tA wc H.size)) Qc mc ms free) (cw : CallW R s args own C index y bytes maxL ret wsc rm mc ms n) (hr : wc[0]? = some (b, .inr (ci, fs))) (hci : vwCl[ci]? = some (C, T, N)) (hg : g.method = m) (hn : As.length = n) (hsize : g.locals.size = nL) (hstack : g.stack = As.reverse ++ .ref b :: rest) (hW : 2 * g.monitorRoom + (rest.map fun v => v.category).sum ≤ 8) (hdg : decode cc g.pc = .ok (.invokevirtual index, 3)) (hf : cells + mc ≤ R.cells ∧ slots + ms ≤ R.slots) : va_Run p l e R s m args below meth c H locs cells slots mc ms g rest (Qc (Value.ref b :: As).toArray) free :=
  va_runV S hM cw ⟨cP_blind, va_recv hk.1 (P_of hP hC) hci hr, fun U hU hW1 => ⟨rfl, by rw [hU], by rw [hU]; exact P_of hP hC, hk.warm hW1, D_of hD hC hnd (fun _ _ => trivial)⟩⟩ hg hn hsize hstack hW hdg hf
theorem runVN (S : CallFix p m c cc nL s args Ts own) (hk : kk G tA s) (hP : va_P G vwCl ws H) (hD : va_D A0 ws) {isC : List Nat} (hC : isC.map (fun i => ws[i]?) = wc.map some) (hnd : isC.Nodup) (hM : Met l y wsc rm (va_Pc (.ref b :: As) (cP G tA wc H.size)) Qc mc ms free) (cw : va_CN R s args own index y host bytes maxL ret wsc rm mc ms n ∧ (Cond.instanceMethod y).before args s = true ∧ (Cond.selects C y y).before args s = true) (hr : wc[0]? = some (b, .inr (ci, fs))) (hci : vwCl[ci]? = some (C, T, N)) (hg : g.method = m) (hn : As.length = n) (hsize : g.locals.size = nL) (hstack : g.stack = As.reverse ++ .ref b :: rest) (hW : 2 * g.monitorRoom + (rest.map fun v => v.category).sum ≤ 8) (hdg : decode cc g.pc = .ok (.invokevirtual index, 3)) (hf : cells + mc ≤ R.cells ∧ slots + ms ≤ R.slots) : va_Run p l e R s m args below meth c H locs cells slots mc ms g rest (Qc (Value.ref b :: As).toArray) free :=
  va_runVN S hM cw ⟨cP_blind, va_recv hk.1 (P_of hP hC) hci hr, fun U hU hW1 => ⟨rfl, by rw [hU], by rw [hU]; exact P_of hP hC, hk.warm hW1, D_of hD hC hnd (fun _ _ => trivial)⟩⟩ hg hn hsize hstack hW hdg hf
theorem runS (S : CallFix p m c cc nL s args Ts own) (hk : kk G tA s) (hP : va_P G vwCl ws H) (hD : va_D A0 ws) {isC : List Nat} (hC : isC.map (fun i => ws[i]?) = wc.map some) (hnd : isC.Nodup) (hM : Met l y wsc rm (va_Pc (As) (cP G tA wc H.size)) Qc mc ms free) (cw : CallB R s args own index y bytes maxL ret wsc rm mc ms n ∧ (Cond.static y).before args s = true) (hg : g.method = m) (hn : As.length = n) (hsize : g.locals.size = nL) (hstack : g.stack = As.reverse ++ rest) (hW : 2 * g.monitorRoom + (rest.map fun v => v.category).sum ≤ 8) (hdg : decode cc g.pc = .ok (.invokestatic index, 3)) (hf : cells + mc ≤ R.cells ∧ slots + ms ≤ R.slots) : va_Run p l e R s m args below meth c H locs cells slots mc ms g rest (Qc (As).toArray) free :=
  va_runS S hM cw ⟨cP_blind, fun U hU hW1 => ⟨rfl, by rw [hU], by rw [hU]; exact P_of hP hC, hk.warm hW1, D_of hD hC hnd (fun _ _ => trivial)⟩⟩ hg hn hsize hstack hW hdg hf
theorem runSN (S : CallFix p m c cc nL s args Ts own) (hk : kk G tA s) (hP : va_P G vwCl ws H) (hD : va_D A0 ws) {isC : List Nat} (hC : isC.map (fun i => ws[i]?) = wc.map some) (hnd : isC.Nodup) (hM : Met l y wsc rm (va_Pc (As) (cP G tA wc H.size)) Qc mc ms free) (cw : va_CN R s args own index y host bytes maxL ret wsc rm mc ms n ∧ (Cond.static y).before args s = true ∧ True) (hg : g.method = m) (hn : As.length = n) (hsize : g.locals.size = nL) (hstack : g.stack = As.reverse ++ rest) (hW : 2 * g.monitorRoom + (rest.map fun v => v.category).sum ≤ 8) (hdg : decode cc g.pc = .ok (.invokestatic index, 3)) (hf : cells + mc ≤ R.cells ∧ slots + ms ≤ R.slots) : va_Run p l e R s m args below meth c H locs cells slots mc ms g rest (Qc (As).toArray) free :=
  va_runSN S hM cw ⟨cP_blind, fun U hU hW1 => ⟨rfl, by rw [hU], by rw [hU]; exact P_of hP hC, hk.warm hW1, D_of hD hC hnd (fun _ _ => trivial)⟩⟩ hg hn hsize hstack hW hdg hf
theorem runI (S : CallFix p m c cc nL s args Ts own) (hk : kk G tA s) (hP : va_P G vwCl ws H) (hD : va_D A0 ws) {isC : List Nat} (hC : isC.map (fun i => ws[i]?) = wc.map some) (hnd : isC.Nodup) (hM : Met l y wsc rm (va_Pc (.ref b :: As) (cP G tA wc H.size)) Qc mc ms free) (cw : CallB R s args own index y bytes maxL none wsc rm mc ms n ∧ y.name = "<init>" ∧ (Cond.instanceMethod y).before args s = true) (hg : g.method = m) (hn : As.length = n) (hsize : g.locals.size = nL) (hstack : g.stack = As.reverse ++ .ref b :: rest) (hW : 2 * g.monitorRoom + (rest.map fun v => v.category).sum ≤ 8) (hdg : decode cc g.pc = .ok (.invokespecial index, 3)) (hf : cells + mc ≤ R.cells ∧ slots + ms ≤ R.slots) : va_Run p l e R s m args below meth c H locs cells slots mc ms g rest (Qc (Value.ref b :: As).toArray) free :=
  va_runI S hM cw ⟨cP_blind, fun U hU hW1 => ⟨rfl, by rw [hU], by rw [hU]; exact P_of hP hC, hk.warm hW1, D_of hD hC hnd (fun _ _ => trivial)⟩⟩ hg hn hsize hstack hW hdg hf
theorem runIN (S : CallFix p m c cc nL s args Ts own) (hk : kk G tA s) (hP : va_P G vwCl ws H) (hD : va_D A0 ws) {isC : List Nat} (hC : isC.map (fun i => ws[i]?) = wc.map some) (hnd : isC.Nodup) (hM : Met l y wsc rm (va_Pc (.ref b :: As) (cP G tA wc H.size)) Qc mc ms free) (cw : va_CN R s args own index y host bytes maxL none wsc rm mc ms n ∧ y.name = "<init>" ∧ (Cond.instanceMethod y).before args s = true) (hg : g.method = m) (hn : As.length = n) (hsize : g.locals.size = nL) (hstack : g.stack = As.reverse ++ .ref b :: rest) (hW : 2 * g.monitorRoom + (rest.map fun v => v.category).sum ≤ 8) (hdg : decode cc g.pc = .ok (.invokespecial index, 3)) (hf : cells + mc ≤ R.cells ∧ slots + ms ≤ R.slots) : va_Run p l e R s m args below meth c H locs cells slots mc ms g rest (Qc (Value.ref b :: As).toArray) free :=
  va_runIN S hM cw ⟨cP_blind, fun U hU hW1 => ⟨rfl, by rw [hU], by rw [hU]; exact P_of hP hC, hk.warm hW1, D_of hD hC hnd (fun _ _ => trivial)⟩⟩ hg hn hsize hstack hW hdg hf
end LIBR
section LIBE
theorem enterI {S : Type} {l : Launch} {y : MethodName} {wsc ws2 : List Cond} {rm : Room} {G : va_G} {tA : Nat → ClassId} {av : List Value} {w : va_W} {post : Int32 → S → Prop} {w1 : S → va_W} {mc ms : Nat} {cc : ByteArray} {maxL : Nat} {ret : Option FieldType} (hy : plainName y.cls = true) (hw : wsc = Cond.code y cc maxL ret :: ws2) (hn : (lg_sl av).length ≤ maxL)
  (body : ∀ (p : Program) (e : Env) (s : State) (m : MethodId) (args : Array Value) (below : List Frame) (meth : Method) (c : Code) (A : Nat → Prop) (ls : Array Slot), p.tables.exec = Jvm.exec → c.code = cc → c.maxLocals = maxL → meth.sig.returnType = ret → (∀ w ∈ wsc, w.before args s = true) → s.vm.findClass y.cls = some m.cls → meth.locks = false → meth.name = y.name → kk G tA s → (∀ q, s.heap.size ≤ q → A q) → va_P G vwCl w s.heap → va_D A w → lv_has ls maxL (lv_args 0 av) → va_S A s.heap s.heap [] → W p l e rm s m args below meth c s.heap [] 0 0 (MQ below (va_Qi post (fun u => cQ G A (w1 u)) A) args s mc ms A) (F0 m 0 ls [])) : CtI l y wsc rm G tA av w post w1 mc ms := by
  intro sz
  refine Met.ofW hy hw ?_
  intro p e s m args below meth c s₁ B hml hv
  obtain ⟨rfl, rfl, hP, hk, hD⟩ := hv
  rw [lg_entry_eq]
  exact body p e s m _ below meth c (va_A w s.heap.size) _ B.exec B.bytes hml B.returns (atoms_spec (ws := wsc) B.pre) (findClass_of_methodNamed B.named) B.notSynchronized (name_of_methodNamed B.named B.method).1 hk (fun q h => Or.inr h) hP hD.self (lv_entry av hn) va_S.rf
theorem enterL {S : Type} {l : Launch} {y : MethodName} {wsc ws2 : List Cond} {rm : Room} {G : va_G} {tA : Nat → ClassId} {av : List Value} {w : va_W} {post : Int64 → S → Prop} {w1 : S → va_W} {mc ms : Nat} {cc : ByteArray} {maxL : Nat} {ret : Option FieldType} (hy : plainName y.cls = true) (hw : wsc = Cond.code y cc maxL ret :: ws2) (hn : (lg_sl av).length ≤ maxL)
  (body : ∀ (p : Program) (e : Env) (s : State) (m : MethodId) (args : Array Value) (below : List Frame) (meth : Method) (c : Code) (A : Nat → Prop) (ls : Array Slot), p.tables.exec = Jvm.exec → c.code = cc → c.maxLocals = maxL → meth.sig.returnType = ret → (∀ w ∈ wsc, w.before args s = true) → s.vm.findClass y.cls = some m.cls → meth.locks = false → meth.name = y.name → kk G tA s → (∀ q, s.heap.size ≤ q → A q) → va_P G vwCl w s.heap → va_D A w → lv_has ls maxL (lv_args 0 av) → va_S A s.heap s.heap [] → W p l e rm s m args below meth c s.heap [] 0 0 (MQ below (va_Ql post (fun u => cQ G A (w1 u)) A) args s mc ms A) (F0 m 0 ls [])) : CtL l y wsc rm G tA av w post w1 mc ms := by
  intro sz
  refine Met.ofW hy hw ?_
  intro p e s m args below meth c s₁ B hml hv
  obtain ⟨rfl, rfl, hP, hk, hD⟩ := hv
  rw [lg_entry_eq]
  exact body p e s m _ below meth c (va_A w s.heap.size) _ B.exec B.bytes hml B.returns (atoms_spec (ws := wsc) B.pre) (findClass_of_methodNamed B.named) B.notSynchronized (name_of_methodNamed B.named B.method).1 hk (fun q h => Or.inr h) hP hD.self (lv_entry av hn) va_S.rf
theorem enterV {S : Type} {l : Launch} {y : MethodName} {wsc ws2 : List Cond} {rm : Room} {G : va_G} {tA : Nat → ClassId} {av : List Value} {w : va_W} {post : S → Prop} {w1 : S → va_W} {mc ms : Nat} {cc : ByteArray} {maxL : Nat} {ret : Option FieldType} (hy : plainName y.cls = true) (hw : wsc = Cond.code y cc maxL ret :: ws2) (hn : (lg_sl av).length ≤ maxL)
  (body : ∀ (p : Program) (e : Env) (s : State) (m : MethodId) (args : Array Value) (below : List Frame) (meth : Method) (c : Code) (A : Nat → Prop) (ls : Array Slot), p.tables.exec = Jvm.exec → c.code = cc → c.maxLocals = maxL → meth.sig.returnType = ret → (∀ w ∈ wsc, w.before args s = true) → s.vm.findClass y.cls = some m.cls → meth.locks = false → meth.name = y.name → kk G tA s → (∀ q, s.heap.size ≤ q → A q) → va_P G vwCl w s.heap → va_D A w → lv_has ls maxL (lv_args 0 av) → va_S A s.heap s.heap [] → W p l e rm s m args below meth c s.heap [] 0 0 (MQ below (va_Qv post (fun u => cQ G A (w1 u)) A) args s mc ms A) (F0 m 0 ls [])) : CtV l y wsc rm G tA av w post w1 mc ms := by
  intro sz
  refine Met.ofW hy hw ?_
  intro p e s m args below meth c s₁ B hml hv
  obtain ⟨rfl, rfl, hP, hk, hD⟩ := hv
  rw [lg_entry_eq]
  exact body p e s m _ below meth c (va_A w s.heap.size) _ B.exec B.bytes hml B.returns (atoms_spec (ws := wsc) B.pre) (findClass_of_methodNamed B.named) B.notSynchronized (name_of_methodNamed B.named B.method).1 hk (fun q h => Or.inr h) hP hD.self (lv_entry av hn) va_S.rf
theorem retI {S : Type} {p : Program} {l : Launch} {e : Env} {R : Room} {s : State} {m : MethodId} {args : Array Value} {below : List Frame} {meth : Method} {c : Code} {H : Heap} {locs : List Loc} {mc ms : Nat} {pc : Nat} {ls : Array Slot} {cc : ByteArray} {G : va_G} {A : Nat → Prop} {post : Int32 → S → Prop} {w1 : S → va_W} {w2 : va_W} {r : Int32} (hx : p.tables.exec = Jvm.exec) (hb : c.code = cc) (hr : meth.sig.returnType = some .int) (hlocks : meth.locks = false) (hS : va_S A s.heap H locs) (hP : va_P G vwCl w2 H) (hD : va_D A w2) (u : S) (hw : w2 = w1 u) (hp : post r u) (hdg : decode cc pc = .ok (.ireturn, 1)) : W p l e R s m args below meth c H locs mc ms (MQ below (va_Qi post (fun u => cQ G A (w1 u)) A) args s mc ms A) (F0 m pc ls [.int r]) := by
  subst hw
  exact W.iret hx hb hr (fun t ht hW => ⟨⟨r, u, rfl, hp, by rw [ht]; exact hP, hD⟩, hS.F ht⟩) hS.2.2 hdg hlocks
theorem retZ {S : Type} {p : Program} {l : Launch} {e : Env} {R : Room} {s : State} {m : MethodId} {args : Array Value} {below : List Frame} {meth : Method} {c : Code} {H : Heap} {locs : List Loc} {mc ms : Nat} {pc : Nat} {ls : Array Slot} {cc : ByteArray} {G : va_G} {A : Nat → Prop} {post : Int32 → S → Prop} {w1 : S → va_W} {w2 : va_W} {r : Int32} (hx : p.tables.exec = Jvm.exec) (hb : c.code = cc) {ty : FieldType} (hr : meth.sig.returnType = some ty) (hn : narrow ty (.int r) = .int r) (hlocks : meth.locks = false) (hS : va_S A s.heap H locs) (hP : va_P G vwCl w2 H) (hD : va_D A w2) (u : S) (hw : w2 = w1 u) (hp : post r u) (hdg : decode cc pc = .ok (.ireturn, 1)) : W p l e R s m args below meth c H locs mc ms (MQ below (va_Qi post (fun u => cQ G A (w1 u)) A) args s mc ms A) (F0 m pc ls [.int r]) := by
  subst hw
  exact W.zret hx hb hr hn (fun t ht hW => ⟨⟨r, u, rfl, hp, by rw [ht]; exact hP, hD⟩, hS.F ht⟩) hS.2.2 hdg hlocks
theorem retL {S : Type} {p : Program} {l : Launch} {e : Env} {R : Room} {s : State} {m : MethodId} {args : Array Value} {below : List Frame} {meth : Method} {c : Code} {H : Heap} {locs : List Loc} {mc ms : Nat} {pc : Nat} {ls : Array Slot} {cc : ByteArray} {G : va_G} {A : Nat → Prop} {post : Int64 → S → Prop} {w1 : S → va_W} {w2 : va_W} {r : Int64} (hx : p.tables.exec = Jvm.exec) (hb : c.code = cc) (hr : meth.sig.returnType = some .long) (hlocks : meth.locks = false) (hS : va_S A s.heap H locs) (hP : va_P G vwCl w2 H) (hD : va_D A w2) (u : S) (hw : w2 = w1 u) (hp : post r u) (hdg : decode cc pc = .ok (.lreturn, 1)) : W p l e R s m args below meth c H locs mc ms (MQ below (va_Ql post (fun u => cQ G A (w1 u)) A) args s mc ms A) (F0 m pc ls [.long r]) := by
  subst hw
  exact W.lret hx hb hr (fun t ht hW => ⟨⟨r, u, rfl, hp, by rw [ht]; exact hP, hD⟩, hS.F ht⟩) hS.2.2 hdg hlocks
theorem retV {S : Type} {p : Program} {l : Launch} {e : Env} {R : Room} {s : State} {m : MethodId} {args : Array Value} {below : List Frame} {meth : Method} {c : Code} {H : Heap} {locs : List Loc} {mc ms : Nat} {pc : Nat} {ls : Array Slot} {cc : ByteArray} {G : va_G} {A : Nat → Prop} {post : S → Prop} {w1 : S → va_W} {w2 : va_W} (hx : p.tables.exec = Jvm.exec) (hb : c.code = cc) (hr : meth.sig.returnType = none) (hlocks : meth.locks = false) (hS : va_S A s.heap H locs) (hP : va_P G vwCl w2 H) (hD : va_D A w2) (u : S) (hw : w2 = w1 u) (hp : post u) (hdg : decode cc pc = .ok (.return_, 1)) : W p l e R s m args below meth c H locs mc ms (MQ below (va_Qv post (fun u => cQ G A (w1 u)) A) args s mc ms A) (F0 m pc ls []) := by
  subst hw
  exact W.vret hx hb hr (fun t ht hW => ⟨⟨u, rfl, hp, by rw [ht]; exact hP, hD⟩, hS.F ht⟩) hS.2.2 hdg hlocks
end LIBE
