/-! THE ROWS: what each instruction does to 'pw' -/
theorem px_X.stk {p : Program} {l : Launch} {e : Env} {R : Room} {s : State} {m : MethodId} {args : Array Value} {below : List Frame} {meth : Method} {c : Code} {H : Heap} {locs : List Loc} {ls : Array Slot} {D : va_G} {tA : Nat → ClassId} {ad ad0 : pxI → Nat} {ids0 : List pxI} {A : Nat → Prop} {y : MethodName} {cc : ByteArray} {nL : Nat} {ret : Option FieldType} {L : List (Nat × pxV)} {st st' : List pxV} {ids : List pxI} {G : pxG} {σ : pxS}
    (X : px_X p l e R s m args below meth c H locs ls D tA ad ad0 ids0 A y cc nL ret L st ids G σ) (h : ∀ v ∈ st', px_vv ids v) : px_X p l e R s m args below meth c H locs ls D tA ad ad0 ids0 A y cc nL ret L st' ids G σ :=
  ⟨X.1, X.2.1, X.2.2.1, X.2.2.2.1, h, X.2.2.2.2.2⟩
theorem px_c {ids : List pxI} {v : pxV} {st : List pxV} (h : px_vv ids v) (hs : ∀ w ∈ st, px_vv ids w) : ∀ w ∈ v :: st, px_vv ids w := fun w hw => by
  rcases List.mem_cons.mp hw with rfl | hw
  · exact h
  · exact hs w hw
theorem px_t {ids : List pxI} {v : pxV} {st : List pxV} (hs : ∀ w ∈ v :: st, px_vv ids w) : ∀ w ∈ st, px_vv ids w := fun w hw => hs w (List.mem_cons_of_mem _ hw)
theorem px_h {ids : List pxI} {v : pxV} {st : List pxV} (hs : ∀ w ∈ v :: st, px_vv ids w) : px_vv ids v := hs v List.mem_cons_self
def px_setL (i : Nat) (v : pxV) (L : List (Nat × pxV)) : List (Nat × pxV) := (i, v) :: L.filter (fun q => !(q.1 == i))
theorem px_setL_ml (ad : pxI → Nat) (i : Nat) (v : pxV) (L : List (Nat × pxV)) : (i, px_mv ad v) :: (px_ml ad L).filter (fun q => !(q.1 == i) && !(q.1 + 1 == i && q.2.category == 2)) = px_ml ad (px_setL i v L) := by
  have h : ∀ L : List (Nat × pxV), (px_ml ad L).filter (fun q => !(q.1 == i) && !(q.1 + 1 == i && q.2.category == 2)) = px_ml ad (L.filter (fun q => !(q.1 == i))) := by
    intro L
    induction L with
    | nil => rfl
    | cons q L ih =>
      have e : (!(q.1 == i) && !(q.1 + 1 == i && (px_mv ad q.2).category == 2)) = !(q.1 == i) := by
        rw [px_mv_cat]
        simp
      show List.filter _ ((q.1, px_mv ad q.2) :: px_ml ad L) = px_ml ad (List.filter _ (q :: L))
      rw [List.filter_cons, List.filter_cons, ih]
      show (if (!(q.1 == i) && !(q.1 + 1 == i && (px_mv ad q.2).category == 2)) = true then _ else _) = _
      rw [e]
      by_cases h : (!(q.1 == i)) = true
      · rw [if_pos h, if_pos h]
        rfl
      · rw [if_neg h, if_neg h]
  show _ = (i, px_mv ad v) :: px_ml ad (L.filter (fun q => !(q.1 == i)))
  rw [h]
theorem px_setL_mem {i : Nat} {v : pxV} {L : List (Nat × pxV)} {ids : List pxI} (h : px_vv ids v) (hL : ∀ q ∈ L, px_vv ids q.2) : ∀ q ∈ px_setL i v L, px_vv ids q.2 := fun q hq => by
  rcases List.mem_cons.mp hq with rfl | hq
  · exact h
  · exact hL q (List.mem_filter.mp hq).1
section PXR
variable {l : Launch} {R : Room} {y : MethodName} {cc : ByteArray} {nL : Nat} {ret : Option FieldType} {pc : Nat} {L : List (Nat × pxV)} {st : List pxV} {ids : List pxI} {G : pxG} {σ : pxS} {k n : Nat} {Rt : Option pxV → List pxI → pxG → pxS → Prop}
/-- other locals, of those that there are -/
theorem pw_L (L' : List (Nat × pxV)) (ps : List Nat) (hp : ps.filterMap (fun j => L[j]?) = L') (h : pw l R y cc nL ret pc L' st ids G σ k n Rt) : pw l R y cc nL ret pc L st ids G σ k n Rt := by
  have hm : ∀ q ∈ L', q ∈ L := fun q hq => by
    rw [← hp] at hq
    obtain ⟨j, -, hj⟩ := List.mem_filterMap.mp hq
    exact List.mem_of_getElem? hj
  intro p e s m args below meth c H locs ls D tA ad ad0 ids0 A X
  refine h p e s m args below meth c H locs ls D tA ad ad0 ids0 A ⟨X.1, X.2.1, ⟨X.2.2.1.1, X.2.2.1.2.1, fun q hq => ?_⟩, fun q hq => X.2.2.2.1 q (hm q hq), X.2.2.2.2⟩
  obtain ⟨q', h1, rfl⟩ := List.mem_map.mp hq
  exact X.2.2.1.2.2 _ (List.mem_map.mpr ⟨q', hm q' h1, rfl⟩)
theorem pw_iconst {j : Int} {v : Int32} (hd : decode cc pc = .ok (.iconst j, 1)) (hv : Int32.ofInt j = v) (h : pw l R y cc nL ret (pc + 1) L (.inl v :: st) ids G σ k n Rt) : pw l R y cc nL ret pc L st ids G σ k n Rt := by
  intro p e s m args below meth c H locs ls D tA ad ad0 ids0 A X
  exact lv_iconst X.1.1 X.1.2.1 hd hv (h p e s m args below meth c H locs ls D tA ad ad0 ids0 A (X.stk (px_c px_vi X.2.2.2.2.1)))
theorem pw_bipush {j : Int} {v : Int32} (hd : decode cc pc = .ok (.bipush j, 2)) (hv : (Int8.ofInt j).toInt32 = v) (h : pw l R y cc nL ret (pc + 2) L (.inl v :: st) ids G σ k n Rt) : pw l R y cc nL ret pc L st ids G σ k n Rt := by
  intro p e s m args below meth c H locs ls D tA ad ad0 ids0 A X
  exact lv_bipush X.1.1 X.1.2.1 hd hv (h p e s m args below meth c H locs ls D tA ad ad0 ids0 A (X.stk (px_c px_vi X.2.2.2.2.1)))
theorem pw_sipush {j : Int} {v : Int32} (hd : decode cc pc = .ok (.sipush j, 3)) (hv : (Int16.ofInt j).toInt32 = v) (h : pw l R y cc nL ret (pc + 3) L (.inl v :: st) ids G σ k n Rt) : pw l R y cc nL ret pc L st ids G σ k n Rt := by
  intro p e s m args below meth c H locs ls D tA ad ad0 ids0 A X
  exact lv_sipush X.1.1 X.1.2.1 hd hv (h p e s m args below meth c H locs ls D tA ad ad0 ids0 A (X.stk (px_c px_vi X.2.2.2.2.1)))
theorem pw_ldc {j : Nat} {v : Int32} (hd : decode cc pc = .ok (.ldc j, 2)) (hv : Cond.constant y.cls j v ∈ pxW) (h : pw l R y cc nL ret (pc + 2) L (.inl v :: st) ids G σ k n Rt) : pw l R y cc nL ret pc L st ids G σ k n Rt := by
  intro p e s m args below meth c H locs ls D tA ad ad0 ids0 A X
  exact lv_ldc X.1.1 X.1.2.1 X.1.2.2.2.2.2.2.1 (X.1.2.2.2.2.2.1 _ hv) hd (h p e s m args below meth c H locs ls D tA ad ad0 ids0 A (X.stk (px_c px_vi X.2.2.2.2.1)))
theorem pw_ldcw {j : Nat} {v : Int32} (hd : decode cc pc = .ok (.ldc_w j, 3)) (hv : Cond.constant y.cls j v ∈ pxW) (h : pw l R y cc nL ret (pc + 3) L (.inl v :: st) ids G σ k n Rt) : pw l R y cc nL ret pc L st ids G σ k n Rt := by
  intro p e s m args below meth c H locs ls D tA ad ad0 ids0 A X
  exact lv_ldcw X.1.1 X.1.2.1 X.1.2.2.2.2.2.2.1 (X.1.2.2.2.2.2.1 _ hv) hd (h p e s m args below meth c H locs ls D tA ad ad0 ids0 A (X.stk (px_c px_vi X.2.2.2.2.1)))
theorem pw_iload_n {j : Fin 4} {i : Nat} {x : Int32} (q : Nat) (hd : decode cc pc = .ok (.iload_n j, 1)) (hi : (j : Nat) = i) (hq : L[q]? = some (i, .inl x)) (h : pw l R y cc nL ret (pc + 1) L (.inl x :: st) ids G σ k n Rt) : pw l R y cc nL ret pc L st ids G σ k n Rt := by
  intro p e s m args below meth c H locs ls D tA ad ad0 ids0 A X
  exact lv_iload_n X.1.1 X.1.2.1 hd hi (X.2.2.1.2.2 (i, .int x) (List.mem_map.mpr ⟨_, List.mem_of_getElem? hq, rfl⟩)) (h p e s m args below meth c H locs ls D tA ad ad0 ids0 A (X.stk (px_c px_vi X.2.2.2.2.1)))
theorem pw_iload {i : Nat} {x : Int32} (q : Nat) (hd : decode cc pc = .ok (.iload i, 2)) (hq : L[q]? = some (i, .inl x)) (h : pw l R y cc nL ret (pc + 2) L (.inl x :: st) ids G σ k n Rt) : pw l R y cc nL ret pc L st ids G σ k n Rt := by
  intro p e s m args below meth c H locs ls D tA ad ad0 ids0 A X
  exact lv_iload X.1.1 X.1.2.1 hd (X.2.2.1.2.2 (i, .int x) (List.mem_map.mpr ⟨_, List.mem_of_getElem? hq, rfl⟩)) (h p e s m args below meth c H locs ls D tA ad ad0 ids0 A (X.stk (px_c px_vi X.2.2.2.2.1)))
theorem pw_aload_n {j : Fin 4} {i : Nat} {r : pxI} (q : Nat) (hd : decode cc pc = .ok (.aload_n j, 1)) (hi : (j : Nat) = i) (hq : L[q]? = some (i, .inr (some r))) (h : pw l R y cc nL ret (pc + 1) L (.inr (some r) :: st) ids G σ k n Rt) : pw l R y cc nL ret pc L st ids G σ k n Rt := by
  intro p e s m args below meth c H locs ls D tA ad ad0 ids0 A X
  exact lv_aload_n X.1.1 X.1.2.1 hd hi (X.2.2.1.2.2 (i, .ref (ad r)) (List.mem_map.mpr ⟨_, List.mem_of_getElem? hq, rfl⟩)) (h p e s m args below meth c H locs ls D tA ad ad0 ids0 A (X.stk (px_c (X.2.2.2.1 _ (List.mem_of_getElem? hq)) X.2.2.2.2.1)))
theorem pw_aload {i : Nat} {r : pxI} (q : Nat) (hd : decode cc pc = .ok (.aload i, 2)) (hq : L[q]? = some (i, .inr (some r))) (h : pw l R y cc nL ret (pc + 2) L (.inr (some r) :: st) ids G σ k n Rt) : pw l R y cc nL ret pc L st ids G σ k n Rt := by
  intro p e s m args below meth c H locs ls D tA ad ad0 ids0 A X
  exact lv_aload X.1.1 X.1.2.1 hd (X.2.2.1.2.2 (i, .ref (ad r)) (List.mem_map.mpr ⟨_, List.mem_of_getElem? hq, rfl⟩)) (h p e s m args below meth c H locs ls D tA ad ad0 ids0 A (X.stk (px_c (X.2.2.2.1 _ (List.mem_of_getElem? hq)) X.2.2.2.2.1)))
theorem px_X.loc {p : Program} {l : Launch} {e : Env} {R : Room} {s : State} {m : MethodId} {args : Array Value} {below : List Frame} {meth : Method} {c : Code} {H : Heap} {locs : List Loc} {ls ls' : Array Slot} {D : va_G} {tA : Nat → ClassId} {ad ad0 : pxI → Nat} {ids0 : List pxI} {A : Nat → Prop} {L L' : List (Nat × pxV)} {v : pxV} {i : Nat}
    (X : px_X p l e R s m args below meth c H locs ls D tA ad ad0 ids0 A y cc nL ret L (v :: st) ids G σ) (hL : px_setL i v L = L') (hl : lv_has ls' nL (px_ml ad L')) : px_X p l e R s m args below meth c H locs ls' D tA ad ad0 ids0 A y cc nL ret L' st ids G σ :=
  ⟨X.1, X.2.1, hl, by rw [← hL]; exact px_setL_mem (px_h X.2.2.2.2.1) X.2.2.2.1, px_t X.2.2.2.2.1, X.2.2.2.2.2⟩
theorem pw_istore_n {j : Fin 4} {i : Nat} {x : Int32} {L' : List (Nat × pxV)} (hd : decode cc pc = .ok (.istore_n j, 1)) (hi : (j : Nat) = i) (hn : i < nL) (hL : px_setL i (.inl x) L = L') (h : pw l R y cc nL ret (pc + 1) L' st ids G σ k n Rt) : pw l R y cc nL ret pc L (.inl x :: st) ids G σ k n Rt := by
  intro p e s m args below meth c H locs ls D tA ad ad0 ids0 A X
  exact lv_istore_n X.1.1 X.1.2.1 hd hi X.2.2.1 hn (by rw [← hL]; exact px_setL_ml ad i (.inl x) L) fun ls' hl => h p e s m args below meth c H locs ls' D tA ad ad0 ids0 A (X.loc hL hl)
theorem pw_istore {i : Nat} {x : Int32} {L' : List (Nat × pxV)} (hd : decode cc pc = .ok (.istore i, 2)) (hn : i < nL) (hL : px_setL i (.inl x) L = L') (h : pw l R y cc nL ret (pc + 2) L' st ids G σ k n Rt) : pw l R y cc nL ret pc L (.inl x :: st) ids G σ k n Rt := by
  intro p e s m args below meth c H locs ls D tA ad ad0 ids0 A X
  exact lv_istore X.1.1 X.1.2.1 hd X.2.2.1 hn (by rw [← hL]; exact px_setL_ml ad i (.inl x) L) fun ls' hl => h p e s m args below meth c H locs ls' D tA ad ad0 ids0 A (X.loc hL hl)
theorem pw_astore_n {j : Fin 4} {i : Nat} {r : pxI} {L' : List (Nat × pxV)} (hd : decode cc pc = .ok (.astore_n j, 1)) (hi : (j : Nat) = i) (hn : i < nL) (hL : px_setL i (.inr (some r)) L = L') (h : pw l R y cc nL ret (pc + 1) L' st ids G σ k n Rt) : pw l R y cc nL ret pc L (.inr (some r) :: st) ids G σ k n Rt := by
  intro p e s m args below meth c H locs ls D tA ad ad0 ids0 A X
  exact lv_astore_n X.1.1 X.1.2.1 hd hi X.2.2.1 hn (by rw [← hL]; exact px_setL_ml ad i (.inr (some r)) L) fun ls' hl => h p e s m args below meth c H locs ls' D tA ad ad0 ids0 A (X.loc hL hl)
theorem pw_astore {i : Nat} {r : pxI} {L' : List (Nat × pxV)} (hd : decode cc pc = .ok (.astore i, 2)) (hn : i < nL) (hL : px_setL i (.inr (some r)) L = L') (h : pw l R y cc nL ret (pc + 2) L' st ids G σ k n Rt) : pw l R y cc nL ret pc L (.inr (some r) :: st) ids G σ k n Rt := by
  intro p e s m args below meth c H locs ls D tA ad ad0 ids0 A X
  exact lv_astore X.1.1 X.1.2.1 hd X.2.2.1 hn (by rw [← hL]; exact px_setL_ml ad i (.inr (some r)) L) fun ls' hl => h p e s m args below meth c H locs ls' D tA ad ad0 ids0 A (X.loc hL hl)
theorem pw_iinc {i q : Nat} {j : Int} {x v : Int32} {L' : List (Nat × pxV)} (hd : decode cc pc = .ok (.iinc i j, 3)) (hq : L[q]? = some (i, .inl x)) (hv : x + Int32.ofInt j = v) (hn : i < nL) (hL : px_setL i (.inl v) L = L') (h : pw l R y cc nL ret (pc + 3) L' st ids G σ k n Rt) : pw l R y cc nL ret pc L st ids G σ k n Rt := by
  intro p e s m args below meth c H locs ls D tA ad ad0 ids0 A X
  refine lv_iinc (lv' := px_ml ad L') X.1.1 X.1.2.1 hd X.2.2.1 (k := q) (by simp [px_ml, hq, px_mv]) hv hn (by rw [← hL]; exact px_setL_ml ad i (.inl v) L) fun ls' hl => h p e s m args below meth c H locs ls' D tA ad ad0 ids0 A ?_
  exact (X.stk (st' := .inl v :: st) (px_c px_vi X.2.2.2.2.1)).loc hL hl
theorem pw_iadd {a b : Int32} (hd : decode cc pc = .ok (.iadd, 1)) (h : pw l R y cc nL ret (pc + 1) L (.inl (a + b) :: st) ids G σ k n Rt) : pw l R y cc nL ret pc L (.inl b :: .inl a :: st) ids G σ k n Rt := by
  intro p e s m args below meth c H locs ls D tA ad ad0 ids0 A X
  exact lv_iadd X.1.1 X.1.2.1 hd (h p e s m args below meth c H locs ls D tA ad ad0 ids0 A (X.stk (px_c px_vi (px_t (px_t X.2.2.2.2.1)))))
theorem pw_isub {a b : Int32} (hd : decode cc pc = .ok (.isub, 1)) (h : pw l R y cc nL ret (pc + 1) L (.inl (a - b) :: st) ids G σ k n Rt) : pw l R y cc nL ret pc L (.inl b :: .inl a :: st) ids G σ k n Rt := by
  intro p e s m args below meth c H locs ls D tA ad ad0 ids0 A X
  exact lv_isub X.1.1 X.1.2.1 hd (h p e s m args below meth c H locs ls D tA ad ad0 ids0 A (X.stk (px_c px_vi (px_t (px_t X.2.2.2.2.1)))))
theorem pw_imul {a b : Int32} (hd : decode cc pc = .ok (.imul, 1)) (h : pw l R y cc nL ret (pc + 1) L (.inl (a * b) :: st) ids G σ k n Rt) : pw l R y cc nL ret pc L (.inl b :: .inl a :: st) ids G σ k n Rt := by
  intro p e s m args below meth c H locs ls D tA ad ad0 ids0 A X
  exact lv_imul X.1.1 X.1.2.1 hd (h p e s m args below meth c H locs ls D tA ad ad0 ids0 A (X.stk (px_c px_vi (px_t (px_t X.2.2.2.2.1)))))
theorem pw_iand {a b : Int32} (hd : decode cc pc = .ok (.iand, 1)) (h : pw l R y cc nL ret (pc + 1) L (.inl (a &&& b) :: st) ids G σ k n Rt) : pw l R y cc nL ret pc L (.inl b :: .inl a :: st) ids G σ k n Rt := by
  intro p e s m args below meth c H locs ls D tA ad ad0 ids0 A X
  exact lv_iand X.1.1 X.1.2.1 hd (h p e s m args below meth c H locs ls D tA ad ad0 ids0 A (X.stk (px_c px_vi (px_t (px_t X.2.2.2.2.1)))))
theorem pw_ior {a b : Int32} (hd : decode cc pc = .ok (.ior, 1)) (h : pw l R y cc nL ret (pc + 1) L (.inl (a ||| b) :: st) ids G σ k n Rt) : pw l R y cc nL ret pc L (.inl b :: .inl a :: st) ids G σ k n Rt := by
  intro p e s m args below meth c H locs ls D tA ad ad0 ids0 A X
  exact lv_ior X.1.1 X.1.2.1 hd (h p e s m args below meth c H locs ls D tA ad ad0 ids0 A (X.stk (px_c px_vi (px_t (px_t X.2.2.2.2.1)))))
theorem pw_ixor {a b : Int32} (hd : decode cc pc = .ok (.ixor, 1)) (h : pw l R y cc nL ret (pc + 1) L (.inl (a ^^^ b) :: st) ids G σ k n Rt) : pw l R y cc nL ret pc L (.inl b :: .inl a :: st) ids G σ k n Rt := by
  intro p e s m args below meth c H locs ls D tA ad ad0 ids0 A X
  exact lv_ixor X.1.1 X.1.2.1 hd (h p e s m args below meth c H locs ls D tA ad ad0 ids0 A (X.stk (px_c px_vi (px_t (px_t X.2.2.2.2.1)))))
theorem pw_ishl {a b : Int32} (hd : decode cc pc = .ok (.ishl, 1)) (h : pw l R y cc nL ret (pc + 1) L (.inl (a <<< (b &&& 31)) :: st) ids G σ k n Rt) : pw l R y cc nL ret pc L (.inl b :: .inl a :: st) ids G σ k n Rt := by
  intro p e s m args below meth c H locs ls D tA ad ad0 ids0 A X
  exact lv_ishl X.1.1 X.1.2.1 hd (h p e s m args below meth c H locs ls D tA ad ad0 ids0 A (X.stk (px_c px_vi (px_t (px_t X.2.2.2.2.1)))))
theorem pw_ishr {a b : Int32} (hd : decode cc pc = .ok (.ishr, 1)) (h : pw l R y cc nL ret (pc + 1) L (.inl (a >>> (b &&& 31)) :: st) ids G σ k n Rt) : pw l R y cc nL ret pc L (.inl b :: .inl a :: st) ids G σ k n Rt := by
  intro p e s m args below meth c H locs ls D tA ad ad0 ids0 A X
  exact lv_ishr X.1.1 X.1.2.1 hd (h p e s m args below meth c H locs ls D tA ad ad0 ids0 A (X.stk (px_c px_vi (px_t (px_t X.2.2.2.2.1)))))
theorem pw_iushr {a b : Int32} (hd : decode cc pc = .ok (.iushr, 1)) (h : pw l R y cc nL ret (pc + 1) L (.inl ((a.toUInt32 >>> (b.toUInt32 &&& Int32.toUInt32 31)).toInt32) :: st) ids G σ k n Rt) : pw l R y cc nL ret pc L (.inl b :: .inl a :: st) ids G σ k n Rt := by
  intro p e s m args below meth c H locs ls D tA ad ad0 ids0 A X
  exact lv_iushr X.1.1 X.1.2.1 hd rfl (h p e s m args below meth c H locs ls D tA ad ad0 ids0 A (X.stk (px_c px_vi (px_t (px_t X.2.2.2.2.1)))))
theorem pw_idiv {a b : Int32} (hd : decode cc pc = .ok (.idiv, 1)) (hne : ¬ b = 0) (h : pw l R y cc nL ret (pc + 1) L (.inl (a / b) :: st) ids G σ k n Rt) : pw l R y cc nL ret pc L (.inl b :: .inl a :: st) ids G σ k n Rt := by
  intro p e s m args below meth c H locs ls D tA ad ad0 ids0 A X
  exact lv_idiv X.1.1 X.1.2.1 hd hne (h p e s m args below meth c H locs ls D tA ad ad0 ids0 A (X.stk (px_c px_vi (px_t (px_t X.2.2.2.2.1)))))
theorem pw_irem {a b : Int32} (hd : decode cc pc = .ok (.irem, 1)) (hne : ¬ b = 0) (h : pw l R y cc nL ret (pc + 1) L (.inl (a - a / b * b) :: st) ids G σ k n Rt) : pw l R y cc nL ret pc L (.inl b :: .inl a :: st) ids G σ k n Rt := by
  intro p e s m args below meth c H locs ls D tA ad ad0 ids0 A X
  exact lv_irem X.1.1 X.1.2.1 hd hne (h p e s m args below meth c H locs ls D tA ad ad0 ids0 A (X.stk (px_c px_vi (px_t (px_t X.2.2.2.2.1)))))
theorem pw_ineg {a : Int32} (hd : decode cc pc = .ok (.ineg, 1)) (h : pw l R y cc nL ret (pc + 1) L (.inl (-a) :: st) ids G σ k n Rt) : pw l R y cc nL ret pc L (.inl a :: st) ids G σ k n Rt := by
  intro p e s m args below meth c H locs ls D tA ad ad0 ids0 A X
  exact lv_ineg X.1.1 X.1.2.1 hd (h p e s m args below meth c H locs ls D tA ad ad0 ids0 A (X.stk (px_c px_vi (px_t X.2.2.2.2.1))))
theorem pw_i2b {a : Int32} (hd : decode cc pc = .ok (.i2b, 1)) (h : pw l R y cc nL ret (pc + 1) L (.inl a.toInt8.toInt32 :: st) ids G σ k n Rt) : pw l R y cc nL ret pc L (.inl a :: st) ids G σ k n Rt := by
  intro p e s m args below meth c H locs ls D tA ad ad0 ids0 A X
  exact lv_i2b X.1.1 X.1.2.1 hd rfl (h p e s m args below meth c H locs ls D tA ad ad0 ids0 A (X.stk (px_c px_vi (px_t X.2.2.2.2.1))))
theorem pw_dup {v : pxV} (hd : decode cc pc = .ok (.dup, 1)) (h : pw l R y cc nL ret (pc + 1) L (v :: v :: st) ids G σ k n Rt) : pw l R y cc nL ret pc L (v :: st) ids G σ k n Rt := by
  intro p e s m args below meth c H locs ls D tA ad ad0 ids0 A X
  exact lv_dup X.1.1 X.1.2.1 hd (px_mv_cat ad v) (h p e s m args below meth c H locs ls D tA ad ad0 ids0 A (X.stk (px_c (px_h X.2.2.2.2.1) X.2.2.2.2.1)))
theorem pw_dup2 {v w : pxV} (hd : decode cc pc = .ok (.dup2, 1)) (h : pw l R y cc nL ret (pc + 1) L (v :: w :: v :: w :: st) ids G σ k n Rt) : pw l R y cc nL ret pc L (v :: w :: st) ids G σ k n Rt := by
  intro p e s m args below meth c H locs ls D tA ad ad0 ids0 A X
  exact lv_dup2_11 X.1.1 X.1.2.1 hd (px_mv_cat ad v) (px_mv_cat ad w) (h p e s m args below meth c H locs ls D tA ad ad0 ids0 A (X.stk (px_c (px_h X.2.2.2.2.1) (px_c (px_h (px_t X.2.2.2.2.1)) X.2.2.2.2.1))))
theorem pw_dup_x1 {v w : pxV} (hd : decode cc pc = .ok (.dup_x1, 1)) (h : pw l R y cc nL ret (pc + 1) L (v :: w :: v :: st) ids G σ k n Rt) : pw l R y cc nL ret pc L (v :: w :: st) ids G σ k n Rt := by
  intro p e s m args below meth c H locs ls D tA ad ad0 ids0 A X
  exact lv_dup_x1 X.1.1 X.1.2.1 hd (px_mv_cat ad v) (px_mv_cat ad w) (h p e s m args below meth c H locs ls D tA ad ad0 ids0 A (X.stk (px_c (px_h X.2.2.2.2.1) (px_c (px_h (px_t X.2.2.2.2.1)) (px_c (px_h X.2.2.2.2.1) (px_t (px_t X.2.2.2.2.1)))))))
theorem pw_pop {v : pxV} (hd : decode cc pc = .ok (.pop, 1)) (h : pw l R y cc nL ret (pc + 1) L st ids G σ k n Rt) : pw l R y cc nL ret pc L (v :: st) ids G σ k n Rt := by
  intro p e s m args below meth c H locs ls D tA ad ad0 ids0 A X
  exact lv_pop X.1.1 X.1.2.1 hd (px_mv_cat ad v) (h p e s m args below meth c H locs ls D tA ad ad0 ids0 A (X.stk (px_t X.2.2.2.2.1)))
theorem pw_goto {off : Int} (tgt : Nat) (hd : decode cc pc = .ok (.goto off, 3)) (ht : (pc : Int) + off = (tgt : Int)) (h : pw l R y cc nL ret tgt L st ids G σ k n Rt) : pw l R y cc nL ret pc L st ids G σ k n Rt := by
  intro p e s m args below meth c H locs ls D tA ad ad0 ids0 A X
  exact lv_goto X.1.1 X.1.2.1 hd ht (h p e s m args below meth c H locs ls D tA ad ad0 ids0 A X)
theorem pw_icmp_eq {off : Int} {a b : Int32} (tgt : Nat) (hd : decode cc pc = .ok (.if_icmp .eq off, 3)) (ht : (pc : Int) + off = (tgt : Int)) (h1 : a = b → pw l R y cc nL ret tgt L st ids G σ k n Rt) (h2 : ¬ a = b → pw l R y cc nL ret (pc + 3) L st ids G σ k n Rt) : pw l R y cc nL ret pc L (.inl b :: .inl a :: st) ids G σ k n Rt := by
  intro p e s m args below meth c H locs ls D tA ad ad0 ids0 A X
  exact lv_icmp_eq X.1.1 X.1.2.1 hd ht (fun q => h1 q p e s m args below meth c H locs ls D tA ad ad0 ids0 A (X.stk (px_t (px_t X.2.2.2.2.1)))) (fun q => h2 q p e s m args below meth c H locs ls D tA ad ad0 ids0 A (X.stk (px_t (px_t X.2.2.2.2.1))))
theorem pw_icmp_ne {off : Int} {a b : Int32} (tgt : Nat) (hd : decode cc pc = .ok (.if_icmp .ne off, 3)) (ht : (pc : Int) + off = (tgt : Int)) (h1 : ¬ a = b → pw l R y cc nL ret tgt L st ids G σ k n Rt) (h2 : a = b → pw l R y cc nL ret (pc + 3) L st ids G σ k n Rt) : pw l R y cc nL ret pc L (.inl b :: .inl a :: st) ids G σ k n Rt := by
  intro p e s m args below meth c H locs ls D tA ad ad0 ids0 A X
  exact lv_icmp_ne X.1.1 X.1.2.1 hd ht (fun q => h1 q p e s m args below meth c H locs ls D tA ad ad0 ids0 A (X.stk (px_t (px_t X.2.2.2.2.1)))) (fun q => h2 q p e s m args below meth c H locs ls D tA ad ad0 ids0 A (X.stk (px_t (px_t X.2.2.2.2.1))))
theorem pw_icmp_lt {off : Int} {a b : Int32} (tgt : Nat) (hd : decode cc pc = .ok (.if_icmp .lt off, 3)) (ht : (pc : Int) + off = (tgt : Int)) (h1 : a < b → pw l R y cc nL ret tgt L st ids G σ k n Rt) (h2 : ¬ a < b → pw l R y cc nL ret (pc + 3) L st ids G σ k n Rt) : pw l R y cc nL ret pc L (.inl b :: .inl a :: st) ids G σ k n Rt := by
  intro p e s m args below meth c H locs ls D tA ad ad0 ids0 A X
  exact lv_icmp_lt X.1.1 X.1.2.1 hd ht (fun q => h1 q p e s m args below meth c H locs ls D tA ad ad0 ids0 A (X.stk (px_t (px_t X.2.2.2.2.1)))) (fun q => h2 q p e s m args below meth c H locs ls D tA ad ad0 ids0 A (X.stk (px_t (px_t X.2.2.2.2.1))))
theorem pw_icmp_le {off : Int} {a b : Int32} (tgt : Nat) (hd : decode cc pc = .ok (.if_icmp .le off, 3)) (ht : (pc : Int) + off = (tgt : Int)) (h1 : a ≤ b → pw l R y cc nL ret tgt L st ids G σ k n Rt) (h2 : ¬ a ≤ b → pw l R y cc nL ret (pc + 3) L st ids G σ k n Rt) : pw l R y cc nL ret pc L (.inl b :: .inl a :: st) ids G σ k n Rt := by
  intro p e s m args below meth c H locs ls D tA ad ad0 ids0 A X
  exact lv_icmp_le X.1.1 X.1.2.1 hd ht (fun q => h1 q p e s m args below meth c H locs ls D tA ad ad0 ids0 A (X.stk (px_t (px_t X.2.2.2.2.1)))) (fun q => h2 q p e s m args below meth c H locs ls D tA ad ad0 ids0 A (X.stk (px_t (px_t X.2.2.2.2.1))))
theorem pw_icmp_gt {off : Int} {a b : Int32} (tgt : Nat) (hd : decode cc pc = .ok (.if_icmp .gt off, 3)) (ht : (pc : Int) + off = (tgt : Int)) (h1 : b < a → pw l R y cc nL ret tgt L st ids G σ k n Rt) (h2 : ¬ b < a → pw l R y cc nL ret (pc + 3) L st ids G σ k n Rt) : pw l R y cc nL ret pc L (.inl b :: .inl a :: st) ids G σ k n Rt := by
  intro p e s m args below meth c H locs ls D tA ad ad0 ids0 A X
  exact lv_icmp_gt X.1.1 X.1.2.1 hd ht (fun q => h1 q p e s m args below meth c H locs ls D tA ad ad0 ids0 A (X.stk (px_t (px_t X.2.2.2.2.1)))) (fun q => h2 q p e s m args below meth c H locs ls D tA ad ad0 ids0 A (X.stk (px_t (px_t X.2.2.2.2.1))))
theorem pw_icmp_ge {off : Int} {a b : Int32} (tgt : Nat) (hd : decode cc pc = .ok (.if_icmp .ge off, 3)) (ht : (pc : Int) + off = (tgt : Int)) (h1 : b ≤ a → pw l R y cc nL ret tgt L st ids G σ k n Rt) (h2 : ¬ b ≤ a → pw l R y cc nL ret (pc + 3) L st ids G σ k n Rt) : pw l R y cc nL ret pc L (.inl b :: .inl a :: st) ids G σ k n Rt := by
  intro p e s m args below meth c H locs ls D tA ad ad0 ids0 A X
  exact lv_icmp_ge X.1.1 X.1.2.1 hd ht (fun q => h1 q p e s m args below meth c H locs ls D tA ad ad0 ids0 A (X.stk (px_t (px_t X.2.2.2.2.1)))) (fun q => h2 q p e s m args below meth c H locs ls D tA ad ad0 ids0 A (X.stk (px_t (px_t X.2.2.2.2.1))))
theorem pw_if_eq {off : Int} {a : Int32} (tgt : Nat) (hd : decode cc pc = .ok (.ifCond .eq off, 3)) (ht : (pc : Int) + off = (tgt : Int)) (h1 : a = 0 → pw l R y cc nL ret tgt L st ids G σ k n Rt) (h2 : ¬ a = 0 → pw l R y cc nL ret (pc + 3) L st ids G σ k n Rt) : pw l R y cc nL ret pc L (.inl a :: st) ids G σ k n Rt := by
  intro p e s m args below meth c H locs ls D tA ad ad0 ids0 A X
  exact lv_if_eq X.1.1 X.1.2.1 hd ht (fun q => h1 q p e s m args below meth c H locs ls D tA ad ad0 ids0 A (X.stk (px_t X.2.2.2.2.1))) (fun q => h2 q p e s m args below meth c H locs ls D tA ad ad0 ids0 A (X.stk (px_t X.2.2.2.2.1)))
theorem pw_if_ne {off : Int} {a : Int32} (tgt : Nat) (hd : decode cc pc = .ok (.ifCond .ne off, 3)) (ht : (pc : Int) + off = (tgt : Int)) (h1 : ¬ a = 0 → pw l R y cc nL ret tgt L st ids G σ k n Rt) (h2 : a = 0 → pw l R y cc nL ret (pc + 3) L st ids G σ k n Rt) : pw l R y cc nL ret pc L (.inl a :: st) ids G σ k n Rt := by
  intro p e s m args below meth c H locs ls D tA ad ad0 ids0 A X
  exact lv_if_ne X.1.1 X.1.2.1 hd ht (fun q => h1 q p e s m args below meth c H locs ls D tA ad ad0 ids0 A (X.stk (px_t X.2.2.2.2.1))) (fun q => h2 q p e s m args below meth c H locs ls D tA ad ad0 ids0 A (X.stk (px_t X.2.2.2.2.1)))
theorem pw_if_lt {off : Int} {a : Int32} (tgt : Nat) (hd : decode cc pc = .ok (.ifCond .lt off, 3)) (ht : (pc : Int) + off = (tgt : Int)) (h1 : a < 0 → pw l R y cc nL ret tgt L st ids G σ k n Rt) (h2 : ¬ a < 0 → pw l R y cc nL ret (pc + 3) L st ids G σ k n Rt) : pw l R y cc nL ret pc L (.inl a :: st) ids G σ k n Rt := by
  intro p e s m args below meth c H locs ls D tA ad ad0 ids0 A X
  exact lv_if_lt X.1.1 X.1.2.1 hd ht (fun q => h1 q p e s m args below meth c H locs ls D tA ad ad0 ids0 A (X.stk (px_t X.2.2.2.2.1))) (fun q => h2 q p e s m args below meth c H locs ls D tA ad ad0 ids0 A (X.stk (px_t X.2.2.2.2.1)))
theorem pw_if_ge {off : Int} {a : Int32} (tgt : Nat) (hd : decode cc pc = .ok (.ifCond .ge off, 3)) (ht : (pc : Int) + off = (tgt : Int)) (h1 : 0 ≤ a → pw l R y cc nL ret tgt L st ids G σ k n Rt) (h2 : ¬ 0 ≤ a → pw l R y cc nL ret (pc + 3) L st ids G σ k n Rt) : pw l R y cc nL ret pc L (.inl a :: st) ids G σ k n Rt := by
  intro p e s m args below meth c H locs ls D tA ad ad0 ids0 A X
  exact lv_if_ge X.1.1 X.1.2.1 hd ht (fun q => h1 q p e s m args below meth c H locs ls D tA ad ad0 ids0 A (X.stk (px_t X.2.2.2.2.1))) (fun q => h2 q p e s m args below meth c H locs ls D tA ad ad0 ids0 A (X.stk (px_t X.2.2.2.2.1)))
theorem pw_if_gt {off : Int} {a : Int32} (tgt : Nat) (hd : decode cc pc = .ok (.ifCond .gt off, 3)) (ht : (pc : Int) + off = (tgt : Int)) (h1 : 0 < a → pw l R y cc nL ret tgt L st ids G σ k n Rt) (h2 : ¬ 0 < a → pw l R y cc nL ret (pc + 3) L st ids G σ k n Rt) : pw l R y cc nL ret pc L (.inl a :: st) ids G σ k n Rt := by
  intro p e s m args below meth c H locs ls D tA ad ad0 ids0 A X
  exact lv_if_gt X.1.1 X.1.2.1 hd ht (fun q => h1 q p e s m args below meth c H locs ls D tA ad ad0 ids0 A (X.stk (px_t X.2.2.2.2.1))) (fun q => h2 q p e s m args below meth c H locs ls D tA ad ad0 ids0 A (X.stk (px_t X.2.2.2.2.1)))
theorem pw_if_le {off : Int} {a : Int32} (tgt : Nat) (hd : decode cc pc = .ok (.ifCond .le off, 3)) (ht : (pc : Int) + off = (tgt : Int)) (h1 : a ≤ 0 → pw l R y cc nL ret tgt L st ids G σ k n Rt) (h2 : ¬ a ≤ 0 → pw l R y cc nL ret (pc + 3) L st ids G σ k n Rt) : pw l R y cc nL ret pc L (.inl a :: st) ids G σ k n Rt := by
  intro p e s m args below meth c H locs ls D tA ad ad0 ids0 A X
  exact lv_if_le X.1.1 X.1.2.1 hd ht (fun q => h1 q p e s m args below meth c H locs ls D tA ad ad0 ids0 A (X.stk (px_t X.2.2.2.2.1))) (fun q => h2 q p e s m args below meth c H locs ls D tA ad ad0 ids0 A (X.stk (px_t X.2.2.2.2.1)))
end PXR
