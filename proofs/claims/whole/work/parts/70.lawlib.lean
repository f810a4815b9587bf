/-! THE LAW: worlds as lists of blocks -/
theorem D_nodup {A : Nat → Prop} {ws : va_W} (h : va_D A ws) : (ws.map (fun q => q.1)).Nodup := by
  rw [List.Nodup, List.pairwise_iff_getElem]
  intro i j hi hj hlt e
  rw [List.length_map] at hi hj
  rw [List.getElem_map, List.getElem_map] at e
  have := h.1 i j ws[i] ws[j] (List.getElem?_eq_getElem hi) (List.getElem?_eq_getElem hj) e
  omega
theorem D_mk {A : Nat → Prop} {ws : va_W} (h : (ws.map (fun q => q.1)).Nodup) (hA : ∀ q ∈ ws, A q.1) : va_D A ws := by
  refine ⟨fun i j p q hi hj e => ?_, fun k q hq => hA q (List.mem_of_getElem? hq)⟩
  rw [List.Nodup, List.pairwise_iff_getElem] at h
  obtain ⟨li, ei⟩ := List.getElem?_eq_some_iff.mp hi
  obtain ⟨lj, ej⟩ := List.getElem?_eq_some_iff.mp hj
  rcases Nat.lt_trichotomy i j with z | z | z
  · refine absurd ?_ (h i j (by rw [List.length_map]; exact li) (by rw [List.length_map]; exact lj) z)
    rw [List.getElem_map, List.getElem_map, ei, ej]; exact e
  · exact z
  · refine absurd ?_ (h j i (by rw [List.length_map]; exact lj) (by rw [List.length_map]; exact li) z)
    rw [List.getElem_map, List.getElem_map, ei, ej]; exact e.symm
theorem D_in {A : Nat → Prop} {ws : va_W} (h : va_D A ws) : ∀ q ∈ ws, A q.1 := fun q hq => by
  obtain ⟨i, hi⟩ := List.getElem?_of_mem hq
  exact h.2 i q hi
theorem P_in {G : va_G} {ws : va_W} {H : Heap} (h : va_P G vwCl ws H) : ∀ q ∈ ws, va_at G vwCl q H := fun q hq => by
  obtain ⟨i, hi⟩ := List.getElem?_of_mem hq
  exact h i q hi
def WP (G : va_G) (A : Nat → Prop) (ws : va_W) (H : Heap) : Prop := va_P G vwCl ws H ∧ va_D A ws
theorem WP_perm {G : va_G} {A : Nat → Prop} {ws ws' : va_W} {H : Heap} (p : ws.Perm ws') (h : WP G A ws H) : WP G A ws' H := by
  refine ⟨fun k q hq => P_in h.1 q (p.mem_iff.mpr (List.mem_of_getElem? hq)), D_mk ?_ fun q hq => D_in h.2 q (p.mem_iff.mpr hq)⟩
  exact (p.map (fun q => q.1)).nodup_iff.mp (D_nodup h.2)
/-- two neighbours change places -/
theorem sw (B C D : va_W) : (B ++ (C ++ D)).Perm (C ++ (B ++ D)) := by
  rw [← List.append_assoc, ← List.append_assoc]
  exact List.Perm.append_right D List.perm_append_comm
theorem ul (A : va_W) {B C : va_W} (h : B.Perm C) : (A ++ B).Perm (A ++ C) := List.Perm.append_left A h
theorem join_D {A0 : Nat → Prop} {G : va_G} {wc w1 pst : va_W} {H : Heap} (hP : va_P G vwCl (wc ++ pst) H) (hD : va_D A0 (wc ++ pst)) (hF : ∀ q, va_A wc H.size q → A0 q) (hD1 : va_D (va_A wc H.size) w1) : va_D A0 (w1 ++ pst) := by
  have n := D_nodup hD
  rw [List.map_append, List.nodup_append] at n
  obtain ⟨-, n2, n3⟩ := n
  refine D_mk ?_ ?_
  · rw [List.map_append, List.nodup_append]
    refine ⟨D_nodup hD1, n2, fun x hx y hy => ?_⟩
    obtain ⟨q, hq, rfl⟩ := List.mem_map.mp hx
    obtain ⟨q2, hq2, rfl⟩ := List.mem_map.mp hy
    intro e
    rcases D_in hD1 q hq with ⟨k, e2, hk⟩ | h
    · exact n3 q.1 (List.mem_map.mpr ⟨(q.1, e2), List.mem_of_getElem? hk, rfl⟩) q2.1 (List.mem_map.mpr ⟨q2, hq2, rfl⟩) e
    · have := va_at.lt (P_in hP q2 (List.mem_append.mpr (Or.inr hq2)))
      omega
  · intro q hq
    rcases List.mem_append.mp hq with h | h
    · exact hF _ (D_in hD1 q h)
    · exact D_in hD q (List.mem_append.mpr (Or.inr h))
section LIBL
variable {p : Program} {l : Launch} {e : Env} {R : Room} {s : State} {m : MethodId} {args : Array Value} {below : List Frame} {meth : Method} {c : Code} {H : Heap} {locs : List Loc} {cells slots : Nat} {Q : State → Prop} {pc : Nat} {ls : Array Slot} {rest st0 : List Value} {cc : ByteArray}
variable {G : va_G} {tA : Nat → ClassId} {ws wc : va_W} {A0 : Nat → Prop} {H0 : Heap} {a : Array Value}
theorem blk_F {pst : va_W} (hD : va_D A0 (wc ++ pst)) (hS : va_S A0 H0 H locs) (hA : ∀ q, H0.size ≤ q → A0 q) : ∀ q, va_A wc H.size q → A0 q := by
  rintro q (⟨j, x, hj⟩ | h)
  · exact D_in hD (q, x) (List.mem_append.mpr (Or.inl (List.mem_of_getElem? hj)))
  · exact hA q (Nat.le_trans hS.1 h)
theorem mkBI {S : Type} {post : Int32 → S → Prop} {w1 : S → va_W} {mc ms : Nat} (pst : va_W) (hP : va_P G vwCl (wc ++ pst) H) (hD : va_D A0 (wc ++ pst)) (hS : va_S A0 H0 H locs) (hA : ∀ q, H0.size ≤ q → A0 q) (hr : va_Run p l e R s m args below meth c H locs cells slots mc ms (F0 m pc ls st0) rest (va_Qi post (fun u => cQ G (va_A wc H.size) (w1 u)) (va_A wc H.size) a) (va_A wc H.size)) (k : ∀ (r : Int32) (u : S) (H1 : Heap) (locs1 : List Loc), post r u → va_P G vwCl (w1 u ++ pst) H1 → va_D A0 (w1 u ++ pst) → va_S A0 H0 H1 locs1 → W p l e R s m args below meth c H1 locs1 (cells + mc) (slots + ms) Q (F0 m (pc + 3) ls (.int r :: rest))) : W p l e R s m args below meth c H locs cells slots Q (F0 m pc ls st0) := by
  have hF := blk_F hD hS hA
  refine va_calli hr hS (fun q _ h => hF q h) hF (fun r u t H1 locs1 ht hvm hw2 hB hz1 hk1 hS1 => ?_)
  obtain ⟨hP1, hD1⟩ := hB
  rw [ht] at hP1
  exact k r u H1 locs1 hw2 (P_blk (pre := []) (w1 := w1 u) hP hD hk1 hP1) (join_D hP hD hF hD1) hS1
/-- an int of the script -/
theorem law_ld (hx : p.tables.exec = Jvm.exec) (hb : c.code = cc) {sb L i : Nat} {xs : Nat → Int32} (hX : va_X sb L xs s H0) (hbl : sb < H0.size) (hbA : ¬ A0 sb) (hS : va_S A0 H0 H locs) (hi : i < L) (hL : L < 2 ^ 31) (hdg : decode cc pc = .ok (.iaload, 1)) (k : W p l e R s m args below meth c H locs cells slots Q (F0 m (pc + 1) ls (.int (xs i) :: rest))) : W p l e R s m args below meth c H locs cells slots Q (F0 m pc ls (.int (nI i) :: .ref sb :: rest)) := by
  refine va_sld hx hb hX hbl hbA hS (vp_in_nI hi (by omega)) hdg ?_
  rw [nI_clamp (by omega)]; exact k
end LIBL
