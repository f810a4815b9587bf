/-! a call that changes a block of the world -/
theorem P_blk {G : va_G} {A0 : Nat → Prop} {pre wc post w1 : va_W} {H H1 : Heap} (hP : va_P G vwCl (pre ++ (wc ++ post)) H) (hD : va_D A0 (pre ++ (wc ++ post))) (hk : ∀ q : Nat, q < H.size → ¬ va_A wc H.size q → H1[q]? = H[q]?) (hP1 : va_P G vwCl w1 H1) : va_P G vwCl (pre ++ (w1 ++ post)) H1 := by
  have inW : ∀ (j : Nat) (x : Nat × va_E), wc[j]? = some x → (pre ++ (wc ++ post))[pre.length + j]? = some x := by
    intro j x hj
    have hl : j < wc.length := (List.getElem?_eq_some_iff.mp hj).1
    rw [List.getElem?_append_right (by omega), Nat.add_sub_cancel_left, List.getElem?_append_left hl]; exact hj
  have other : ∀ (i : Nat) (q : Nat × va_E), (pre ++ (wc ++ post))[i]? = some q → (i < pre.length ∨ pre.length + wc.length ≤ i) → va_at G vwCl q H1 := by
    intro i q hi ho
    have hat := hP i q hi
    refine va_at.kept hat (hk q.1 (va_at.lt hat) ?_)
    rintro (⟨j, e, hj⟩ | hj)
    · have hl : j < wc.length := (List.getElem?_eq_some_iff.mp hj).1
      have := hD.1 i (pre.length + j) _ _ hi (inW j _ hj) rfl
      omega
    · exact absurd (va_at.lt hat) (Nat.not_lt.mpr hj)
  intro k q hq
  rcases List.mem_append.mp (List.mem_of_getElem? hq) with h | h
  · obtain ⟨i, hi⟩ := List.getElem?_of_mem h
    have hl : i < pre.length := (List.getElem?_eq_some_iff.mp hi).1
    exact other i q (by rw [List.getElem?_append_left hl]; exact hi) (Or.inl hl)
  · rcases List.mem_append.mp h with h | h
    · obtain ⟨i, hi⟩ := List.getElem?_of_mem h
      exact hP1 i q hi
    · obtain ⟨i, hi⟩ := List.getElem?_of_mem h
      refine other (pre.length + wc.length + i) q ?_ (Or.inr (by omega))
      rw [List.getElem?_append_right (by omega), List.getElem?_append_right (by omega), show pre.length + wc.length + i - pre.length - wc.length = i from by omega]; exact hi
section LIBB
variable {p : Program} {l : Launch} {e : Env} {R : Room} {s : State} {m : MethodId} {args : Array Value} {below : List Frame} {meth : Method} {c : Code} {H : Heap} {locs : List Loc} {cells slots : Nat} {Q : State → Prop} {pc : Nat} {ls : Array Slot} {rest st0 : List Value} {cc : ByteArray}
variable {G : va_G} {tA : Nat → ClassId} {ws wc : va_W} {A0 : Nat → Prop} {H0 : Heap} {a : Array Value}
theorem rwBI {S : Type} {post : Int32 → S → Prop} {w1 : S → va_W} (pre pst : va_W) (hP : va_P G vwCl ws H) (hD : va_D A0 ws) (hS : va_S A0 H0 H locs) (hA : ∀ q, H0.size ≤ q → A0 q) (hr : va_Run p l e R s m args below meth c H locs cells slots 0 0 (F0 m pc ls st0) rest (va_Qi post (fun u => cQ G (va_A wc H.size) (w1 u)) (va_A wc H.size) a) (va_A wc H.size)) (hw : ws = pre ++ (wc ++ pst)) (ws2 : S → va_W) (hset : ∀ u, pre ++ (w1 u ++ pst) = ws2 u) (hfst : ∀ u, (w1 u).map (fun q => q.1) = wc.map (fun q => q.1)) (k : ∀ (r : Int32) (u : S) (H1 : Heap) (locs1 : List Loc), post r u → va_P G vwCl (ws2 u) H1 → va_D A0 (ws2 u) → va_S A0 H0 H1 locs1 → W p l e R s m args below meth c H1 locs1 cells slots Q (F0 m (pc + 3) ls (.int r :: rest))) : W p l e R s m args below meth c H locs cells slots Q (F0 m pc ls st0) := by
  subst hw
  have hF : ∀ q, va_A wc H.size q → A0 q := by
    rintro q (⟨j, e, hj⟩ | h)
    · have hl : j < wc.length := (List.getElem?_eq_some_iff.mp hj).1
      refine hD.2 (pre.length + j) (q, e) ?_
      rw [List.getElem?_append_right (by omega), Nat.add_sub_cancel_left, List.getElem?_append_left hl]; exact hj
    · exact hA q (Nat.le_trans hS.1 h)
  refine va_calli hr hS (fun q _ h => hF q h) hF (fun r u t H1 locs1 ht hvm hw2 hB hz1 hk1 hS1 => ?_)
  obtain ⟨hP1, hD1⟩ := hB
  rw [ht] at hP1
  have h9 := P_blk hP hD hk1 hP1
  rw [hset u] at h9
  refine k r u H1 locs1 hw2 h9 (D_same hD ?_) hS1
  rw [← hset u, List.map_append, List.map_append, List.map_append, List.map_append, hfst u]
theorem rwBL {S : Type} {post : Int64 → S → Prop} {w1 : S → va_W} (pre pst : va_W) (hP : va_P G vwCl ws H) (hD : va_D A0 ws) (hS : va_S A0 H0 H locs) (hA : ∀ q, H0.size ≤ q → A0 q) (hr : va_Run p l e R s m args below meth c H locs cells slots 0 0 (F0 m pc ls st0) rest (va_Ql post (fun u => cQ G (va_A wc H.size) (w1 u)) (va_A wc H.size) a) (va_A wc H.size)) (hw : ws = pre ++ (wc ++ pst)) (ws2 : S → va_W) (hset : ∀ u, pre ++ (w1 u ++ pst) = ws2 u) (hfst : ∀ u, (w1 u).map (fun q => q.1) = wc.map (fun q => q.1)) (k : ∀ (r : Int64) (u : S) (H1 : Heap) (locs1 : List Loc), post r u → va_P G vwCl (ws2 u) H1 → va_D A0 (ws2 u) → va_S A0 H0 H1 locs1 → W p l e R s m args below meth c H1 locs1 cells slots Q (F0 m (pc + 3) ls (.long r :: rest))) : W p l e R s m args below meth c H locs cells slots Q (F0 m pc ls st0) := by
  subst hw
  have hF : ∀ q, va_A wc H.size q → A0 q := by
    rintro q (⟨j, e, hj⟩ | h)
    · have hl : j < wc.length := (List.getElem?_eq_some_iff.mp hj).1
      refine hD.2 (pre.length + j) (q, e) ?_
      rw [List.getElem?_append_right (by omega), Nat.add_sub_cancel_left, List.getElem?_append_left hl]; exact hj
    · exact hA q (Nat.le_trans hS.1 h)
  refine va_calll hr hS (fun q _ h => hF q h) hF (fun r u t H1 locs1 ht hvm hw2 hB hz1 hk1 hS1 => ?_)
  obtain ⟨hP1, hD1⟩ := hB
  rw [ht] at hP1
  have h9 := P_blk hP hD hk1 hP1
  rw [hset u] at h9
  refine k r u H1 locs1 hw2 h9 (D_same hD ?_) hS1
  rw [← hset u, List.map_append, List.map_append, List.map_append, List.map_append, hfst u]
theorem rwBV {S : Type} {post : S → Prop} {w1 : S → va_W} (pre pst : va_W) (hP : va_P G vwCl ws H) (hD : va_D A0 ws) (hS : va_S A0 H0 H locs) (hA : ∀ q, H0.size ≤ q → A0 q) (hr : va_Run p l e R s m args below meth c H locs cells slots 0 0 (F0 m pc ls st0) rest (va_Qv post (fun u => cQ G (va_A wc H.size) (w1 u)) (va_A wc H.size) a) (va_A wc H.size)) (hw : ws = pre ++ (wc ++ pst)) (ws2 : S → va_W) (hset : ∀ u, pre ++ (w1 u ++ pst) = ws2 u) (hfst : ∀ u, (w1 u).map (fun q => q.1) = wc.map (fun q => q.1)) (k : ∀ (u : S) (H1 : Heap) (locs1 : List Loc), post u → va_P G vwCl (ws2 u) H1 → va_D A0 (ws2 u) → va_S A0 H0 H1 locs1 → W p l e R s m args below meth c H1 locs1 cells slots Q (F0 m (pc + 3) ls rest)) : W p l e R s m args below meth c H locs cells slots Q (F0 m pc ls st0) := by
  subst hw
  have hF : ∀ q, va_A wc H.size q → A0 q := by
    rintro q (⟨j, e, hj⟩ | h)
    · have hl : j < wc.length := (List.getElem?_eq_some_iff.mp hj).1
      refine hD.2 (pre.length + j) (q, e) ?_
      rw [List.getElem?_append_right (by omega), Nat.add_sub_cancel_left, List.getElem?_append_left hl]; exact hj
    · exact hA q (Nat.le_trans hS.1 h)
  refine va_callv hr hS (fun q _ h => hF q h) hF (fun u t H1 locs1 ht hvm hw2 hB hz1 hk1 hS1 => ?_)
  obtain ⟨hP1, hD1⟩ := hB
  rw [ht] at hP1
  have h9 := P_blk hP hD hk1 hP1
  rw [hset u] at h9
  refine k u H1 locs1 hw2 h9 (D_same hD ?_) hS1
  rw [← hset u, List.map_append, List.map_append, List.map_append, List.map_append, hfst u]
theorem rwAI {S : Type} {post : Int32 → S → Prop} {w1 : S → va_W} (hP : va_P G vwCl ws H) (hD : va_D A0 ws) (hS : va_S A0 H0 H locs) (hA : ∀ q, H0.size ≤ q → A0 q) (hr : va_Run p l e R s m args below meth c H locs cells slots 0 0 (F0 m pc ls st0) rest (va_Qi post (fun u => cQ G (va_A ws H.size) (w1 u)) (va_A ws H.size) a) (va_A ws H.size)) (hfst : ∀ u, (w1 u).map (fun q => q.1) = ws.map (fun q => q.1)) (k : ∀ (r : Int32) (u : S) (H1 : Heap) (locs1 : List Loc), post r u → va_P G vwCl (w1 u) H1 → va_D A0 (w1 u) → va_S A0 H0 H1 locs1 → W p l e R s m args below meth c H1 locs1 cells slots Q (F0 m (pc + 3) ls (.int r :: rest))) : W p l e R s m args below meth c H locs cells slots Q (F0 m pc ls st0) := by
  have hF : ∀ q, va_A ws H.size q → A0 q := by
    rintro q (⟨j, e, hj⟩ | h)
    · exact hD.2 j (q, e) hj
    · exact hA q (Nat.le_trans hS.1 h)
  refine va_calli hr hS (fun q _ h => hF q h) hF (fun r u t H1 locs1 ht hvm hw2 hB hz1 hk1 hS1 => ?_)
  obtain ⟨hP1, hD1⟩ := hB
  rw [ht] at hP1
  exact k r u H1 locs1 hw2 hP1 (D_same hD (hfst u)) hS1
theorem rwAV {S : Type} {post : S → Prop} {w1 : S → va_W} (hP : va_P G vwCl ws H) (hD : va_D A0 ws) (hS : va_S A0 H0 H locs) (hA : ∀ q, H0.size ≤ q → A0 q) (hr : va_Run p l e R s m args below meth c H locs cells slots 0 0 (F0 m pc ls st0) rest (va_Qv post (fun u => cQ G (va_A ws H.size) (w1 u)) (va_A ws H.size) a) (va_A ws H.size)) (hfst : ∀ u, (w1 u).map (fun q => q.1) = ws.map (fun q => q.1)) (k : ∀ (u : S) (H1 : Heap) (locs1 : List Loc), post u → va_P G vwCl (w1 u) H1 → va_D A0 (w1 u) → va_S A0 H0 H1 locs1 → W p l e R s m args below meth c H1 locs1 cells slots Q (F0 m (pc + 3) ls rest)) : W p l e R s m args below meth c H locs cells slots Q (F0 m pc ls st0) := by
  have hF : ∀ q, va_A ws H.size q → A0 q := by
    rintro q (⟨j, e, hj⟩ | h)
    · exact hD.2 j (q, e) hj
    · exact hA q (Nat.le_trans hS.1 h)
  refine va_callv hr hS (fun q _ h => hF q h) hF (fun u t H1 locs1 ht hvm hw2 hB hz1 hk1 hS1 => ?_)
  obtain ⟨hP1, hD1⟩ := hB
  rw [ht] at hP1
  exact k u H1 locs1 hw2 hP1 (D_same hD (hfst u)) hS1
end LIBB
