/-! calls -/
def px_y (own : String) (idx : Nat) (y : MethodName) (cc : ByteArray) (nL : Nat) (ret : Option FieldType) (n : Nat) : Prop :=
  (Cond.methodLink own idx y ∈ pxW ∧ Cond.initialized y.cls ∈ pxW ∧ Cond.code y cc nL ret ∈ pxW) ∧ y.cls ≠ "java/lang/invoke/MethodHandle" ∧ y.cls ≠ "java/lang/invoke/VarHandle" ∧ (parseMethodDescriptor y.desc).map (fun d => d.parameters.length) = some n
theorem px_good {y : MethodName} {cc : ByteArray} {nL : Nat} {ret : Option FieldType} (h : Cond.code y cc nL ret ∈ pxW) : GoodIn pxW (pxws y cc nL ret) := fun w hw => by
  rcases List.mem_cons.mp hw with rfl | hw
  · exact ⟨h, pxW_good h⟩
  · exact ⟨hw, pxW_good hw⟩
theorem px_blind (D : va_G) (tA : Nat → ClassId) (ad : pxI → Nat) (ids : List pxI) (G : pxG) (σ : pxS) (as : List pxV) (sz : Nat) : FrameBlind (px_Pc D tA ad ids G σ as sz) := fun a U g mk h => by
  obtain ⟨h1, h2, h3, h4, h5, h6, h7, h8⟩ := h
  exact ⟨h1, h2, h3, va_K.moved (u := U) (U := U.calling g mk a) (Vm.Alike.refl U.vm) h4, h5, h6, h7, h8.calling⟩
theorem px_ml_eq {ad ad' : pxI → Nat} {ids : List pxI} (h : ∀ i ∈ ids, ad' i = ad i) : ∀ (L : List (Nat × pxV)), (∀ q ∈ L, px_vv ids q.2) → px_ml ad' L = px_ml ad L := fun L hL => by
  refine List.map_congr_left fun q hq => ?_
  obtain ⟨i, v⟩ := q
  rcases v with x | r | r
  · rfl
  · rfl
  · show (i, Value.ref (ad' r)) = (i, Value.ref (ad r))
    rw [h r (hL _ hq r rfl)]
theorem px_st_eq {ad ad' : pxI → Nat} {ids : List pxI} (h : ∀ i ∈ ids, ad' i = ad i) : ∀ (st : List pxV), (∀ v ∈ st, px_vv ids v) → st.map (px_mv ad') = st.map (px_mv ad) := fun st hs => by
  refine List.map_congr_left fun v hv => ?_
  rcases v with x | r | r
  · rfl
  · rfl
  · show Value.ref (ad' r) = Value.ref (ad r)
    rw [h r (hs _ hv r rfl)]
theorem px_cat_sum (ad : pxI → Nat) : ∀ st : List pxV, ((st.map (px_mv ad)).map fun v => v.category).sum = st.length
  | [] => rfl
  | v :: st => by
    have h := px_cat_sum ad st
    simp only [List.map_cons, List.sum_cons, List.length_cons, px_mv_cat, h]
    omega
theorem px_free {A : Nat → Prop} {ad : pxI → Nat} {tA : Nat → ClassId} {ids : List pxI} {G : pxG} {σ : pxS} {H0 H : Heap} {locs : List Loc} (hD : va_D A (px_ws ad tA ids G σ)) (hS : va_S A H0 H locs) (hA : ∀ q : Nat, H0.size ≤ q → A q) : ∀ q : Nat, va_A (px_ws ad tA ids G σ) H.size q → A q := fun q hq => by
  rcases hq with ⟨k2, e2, hq⟩ | hq
  · exact hD.2 k2 _ hq
  · exact hA q (Nat.le_trans hS.1 hq)
section PXC
variable {l : Launch} {R : Room} {y : MethodName} {cc : ByteArray} {nL : Nat} {ret : Option FieldType} {pc : Nat} {L : List (Nat × pxV)} {st : List pxV} {ids : List pxI} {G : pxG} {σ : pxS} {k n : Nat} {Rt : Option pxV → List pxI → pxG → pxS → Prop}
/-- behind a call: what the callee's end gives -/
theorem px_after {p : Program} {e : Env} {s : State} {m : MethodId} {args : Array Value} {below : List Frame} {meth : Method} {c : Code} {H : Heap} {locs : List Loc} {ls : Array Slot} {D : va_G} {tA : Nat → ClassId} {ad ad0 : pxI → Nat} {ids0 : List pxI} {A : Nat → Prop} {st0 : List pxV} {mst : List Value} {R' : Room} {a' : Array Value} {Rt' : Option pxV → List pxI → pxG → pxS → Prop}
    (X : px_X p l e R s m args below meth c H locs ls D tA ad ad0 ids0 A y cc nL ret L st0 ids G σ) (hst : ∀ v ∈ st, px_vv ids v)
    (hr : va_Run p l e R s m args below meth c H locs k n R'.cells R'.slots (F0 m pc ls mst) (st.map (px_mv ad)) (px_Qc D tA ad ids Rt' (va_A (px_ws ad tA ids G σ) H.size) a') (va_A (px_ws ad tA ids G σ) H.size))
    (h : ∀ (v : Option pxV) (ids' : List pxI) (G' : pxG) (σ' : pxS), Rt' v ids' G' σ' → (∀ i ∈ ids, i ∈ ids') → pw l R y cc nL ret (pc + 3) L (v.toList ++ st) ids' G' σ' (k + R'.cells) (n + R'.slots) Rt) :
    W p l e R s m args below meth c H locs k n (MQ below (px_Qc D tA ad0 ids0 Rt A) args s R.cells R.slots A) (F0 m pc ls mst) := by
  intro T hT XT
  obtain ⟨v, st₀, t, T', L', h0, X', hL, e1, e2, ⟨v', ids', G', σ', ad', hRt, hin, had, hv, hvv, hcl', hP', hD', hF⟩, stp⟩ := hr T hT XT
  obtain ⟨hP, hD, hS, hcl, hA⟩ := X.2.1
  have hfree : ∀ q : Nat, va_A (px_ws ad tA ids G σ) H.size q → A q := fun q hq => by
    rcases hq with ⟨k2, e2, hq⟩ | hq
    · exact hD.2 k2 _ hq
    · exact hA q (Nat.le_trans hS.1 hq)
  have hz : H.size ≤ T'.heap.size := by rw [e1, ← h0]; exact hF.1
  have hk : ∀ q : Nat, q < H.size → ¬ va_A (px_ws ad tA ids G σ) H.size q → T'.heap[q]? = H[q]? := fun q h1 h2 => by rw [e1, ← h0]; exact hF.2 q (by rw [h0]; exact h1) h2
  have hS' : va_S A s.heap T'.heap (locs ++ L') := ⟨Nat.le_trans hS.1 hz, fun q h1 h2 => by
      rw [hk q (Nat.lt_of_lt_of_le h1 hS.1) (fun z => h2 (hfree q z))]
      exact hS.2.1 q h1 h2, fun q hq => by
      rcases List.mem_append.mp hq with h | h
      · exact hS.2.2 q h
      · exact hfree _ (hL q h)⟩
  have hK := X.1
  have hml := px_ml_eq had L X.2.2.2.1
  have hsl := px_st_eq had st hst
  have X2 : px_X p l e R s m args below meth c T'.heap (locs ++ L') ls D tA ad' ad0 ids0 A y cc nL ret L (v'.toList ++ st) ids' G' σ' :=
    ⟨hK, ⟨by rw [e1]; exact hP', hD'.weaken (fun _ q _ h => hfree q.1 h), hS', hcl', hA⟩, by rw [hml]; exact X.2.2.1, fun q hq r hr => hin r (X.2.2.2.1 q hq r hr), fun w hw r hr => by
      rcases List.mem_append.mp hw with h | h
      · exact hvv w (Option.mem_toList.mp h) r hr
      · exact hin r (hst w h r hr), fun i hi => hin i (X.2.2.2.2.2.1 i hi), fun i hi => (had i (X.2.2.2.2.2.1 i hi)).trans (X.2.2.2.2.2.2 i hi)⟩
  have hw := h v' ids' G' σ' hRt hin p e s m args below meth c T'.heap (locs ++ L') ls D tA ad' ad0 ids0 A X2
  obtain ⟨t2, a1, b1⟩ := hw T' rfl X'
  refine ⟨t2, stp t2 ?_, b1⟩
  have hv2 : v = v'.map (px_mv ad') := by cases hv; rfl
  have e3 : v.toList ++ st.map (px_mv ad) = (v'.toList ++ st).map (px_mv ad') := by
    rw [List.map_append, hsl, hv2]
    cases v' <;> rfl
  show Steps p.tables e below (T'.setTop { F0 m pc ls mst with pc := pc + 3, stack := v.toList ++ st.map (px_mv ad) }) t2
  rw [e3]
  exact a1
theorem pw_callV {idx ci N : Nat} {y' : MethodName} {cc' : ByteArray} {nL' : Nat} {ret' : Option FieldType} {R' : Room} {o : pxI} {sl : List pxK} {st0 : List pxV} {Rt' : Option pxV → List pxI → pxG → pxS → Prop} (xs : List pxV)
    (hd : decode cc pc = .ok (.invokevirtual idx, 3)) (hw : px_y y.cls idx y' cc' nL' ret' N) (hi : Cond.instanceMethod y' ∈ pxW) (hs : Cond.selects y'.cls y' y' ∈ pxW) (hc : (classes[ci]?).map (fun q => q.1) = some y'.cls) (hG : G o = .inr (.inr (ci, sl)))
    (hst : st0 = xs.reverse ++ .inr (some o) :: st) (hN : xs.length = N) (h8 : st.length ≤ 8) (hR : R'.frames + 1 ≤ R.frames ∧ 8 + (nL' + 11) + R'.locals ≤ R.locals) (hk : k + R'.cells ≤ R.cells ∧ n + R'.slots ≤ R.slots)
    (hm : pm l y' cc' nL' ret' R' (.inr (some o) :: xs) ids G σ Rt')
    (h : ∀ (v : Option pxV) (ids' : List pxI) (G' : pxG) (σ' : pxS), Rt' v ids' G' σ' → (∀ i ∈ ids, i ∈ ids') → pw l R y cc nL ret (pc + 3) L (v.toList ++ st) ids' G' σ' (k + R'.cells) (n + R'.slots) Rt) :
    pw l R y cc nL ret pc L st0 ids G σ k n Rt := by
  intro p e s m args below meth c H locs ls D tA ad ad0 ids0 A X
  subst hst
  obtain ⟨hx, hb, hr, hml, hnm, hts, hown, hlk, hE, hK⟩ := X.1
  obtain ⟨hP, hD, hS, hcl, hA⟩ := X.2.1
  have hvs : ∀ v ∈ (.inr (some o) : pxV) :: xs, px_vv ids v := fun v hv => X.2.2.2.2.1 v (by
    rcases List.mem_cons.mp hv with rfl | hv
    · exact List.mem_append_right _ List.mem_cons_self
    · exact List.mem_append_left _ (List.mem_reverse.mpr hv))
  have hst : ∀ v ∈ st, px_vv ids v := fun v hv => X.2.2.2.2.1 v (List.mem_append_right _ (List.mem_cons_of_mem _ hv))
  obtain ⟨q0, h0⟩ := List.getElem?_of_mem (hvs _ List.mem_cons_self o rfl)
  have he := px_ws_get (ad := ad) (tA := tA) (G := G) (σ := σ) h0
  rw [hG] at he
  obtain ⟨qc, hc1, hc2⟩ := Option.map_eq_some_iff.mp hc
  obtain ⟨⟨w1, w2, w3⟩, w4⟩ := hw
  have hT : GoodIn pxW (wsV y.cls idx y'.cls y' (pxws y' cc' nL' ret')) := fun w hw => by
    rcases List.mem_append.mp hw with hw | hw
    · have hmem : w ∈ pxW := by
        simp only [List.mem_cons, List.not_mem_nil, or_false] at hw
        rcases hw with rfl | rfl | rfl | rfl
        · exact w1
        · exact hi
        · exact hs
        · exact w2
      exact ⟨hmem, pxW_good hmem⟩
    · exact px_good w3 w hw
  refine px_after X hst (va_runV (As := xs.map (px_mv ad)) (n := N) (C := y'.cls) (own := y.cls) (index := idx) (Ts := pxW) (nL := nL) (b := ad o) ⟨hx, hb, hml, hown, hts⟩ (hm D tA ad H.size) (cwV N hts hT rfl rfl rfl ⟨rfl, w4⟩ hR) ⟨px_blind D tA ad ids G σ _ _, ?_, fun U hU hW => ?_⟩ rfl (by rw [List.length_map]; exact hN) X.2.2.1.1 ?_ (lv_room (by rw [px_cat_sum]; exact h8)) hd hk) h
  · have := va_recv hK hP hc1 he
    rw [hc2] at this
    exact this
  · exact ⟨rfl, by rw [hU], by rw [hU]; exact hP, va_K.moved hW.alike hK, hD.weaken (fun _ _ _ _ => trivial), hcl, hvs, hE.call hS (px_free hD hS hA) hW hU⟩
  · show List.map (px_mv ad) _ = _
    rw [List.map_append, List.map_cons, List.map_reverse]
    rfl
theorem pw_callS {idx N : Nat} {y' : MethodName} {cc' : ByteArray} {nL' : Nat} {ret' : Option FieldType} {R' : Room} {st0 : List pxV} {Rt' : Option pxV → List pxI → pxG → pxS → Prop} (xs : List pxV)
    (hd : decode cc pc = .ok (.invokestatic idx, 3)) (hw : px_y y.cls idx y' cc' nL' ret' N) (hi : Cond.static y' ∈ pxW)
    (hst : st0 = xs.reverse ++ st) (hN : xs.length = N) (h8 : st.length ≤ 8) (hR : R'.frames + 1 ≤ R.frames ∧ 8 + (nL' + 11) + R'.locals ≤ R.locals) (hk : k + R'.cells ≤ R.cells ∧ n + R'.slots ≤ R.slots)
    (hm : pm l y' cc' nL' ret' R' xs ids G σ Rt')
    (h : ∀ (v : Option pxV) (ids' : List pxI) (G' : pxG) (σ' : pxS), Rt' v ids' G' σ' → (∀ i ∈ ids, i ∈ ids') → pw l R y cc nL ret (pc + 3) L (v.toList ++ st) ids' G' σ' (k + R'.cells) (n + R'.slots) Rt) :
    pw l R y cc nL ret pc L st0 ids G σ k n Rt := by
  intro p e s m args below meth c H locs ls D tA ad ad0 ids0 A X
  subst hst
  obtain ⟨hx, hb, hr, hml, hnm, hts, hown, hlk, hE, hK⟩ := X.1
  obtain ⟨hP, hD, hS, hcl, hA⟩ := X.2.1
  have hvs : ∀ v ∈ xs, px_vv ids v := fun v hv => X.2.2.2.2.1 v (List.mem_append_left _ (List.mem_reverse.mpr hv))
  have hst : ∀ v ∈ st, px_vv ids v := fun v hv => X.2.2.2.2.1 v (List.mem_append_right _ hv)
  obtain ⟨⟨w1, w2, w3⟩, w4⟩ := hw
  refine px_after X hst (va_runS (As := xs.map (px_mv ad)) (n := N) (own := y.cls) (index := idx) (Ts := pxW) (nL := nL) ⟨hx, hb, hml, hown, hts⟩ (hm D tA ad H.size) ⟨callB_of N hts (px_good w3) rfl rfl rfl (hts _ w2) (hts _ w1) w4 hR, hts _ hi⟩ ⟨px_blind D tA ad ids G σ _ _, fun U hU hW => ?_⟩ rfl (by rw [List.length_map]; exact hN) X.2.2.1.1 ?_ (lv_room (by rw [px_cat_sum]; exact h8)) hd hk) h
  · exact ⟨rfl, by rw [hU], by rw [hU]; exact hP, va_K.moved hW.alike hK, hD.weaken (fun _ _ _ _ => trivial), hcl, hvs, hE.call hS (px_free hD hS hA) hW hU⟩
  · show List.map (px_mv ad) _ = _
    rw [List.map_append, List.map_reverse]
/-- a call whose end is one value, one world -/
def px_r (v : Option pxV) (ids : List pxI) (G : pxG) (σ : pxS) : Option pxV → List pxI → pxG → pxS → Prop := fun v' ids' G' σ' => v' = v ∧ ids' = ids ∧ G' = G ∧ σ' = σ
theorem px_r_k {v : Option pxV} {ids ids2 : List pxI} {G G2 : pxG} {σ σ2 : pxS} {k' n' pc' : Nat} {L' : List (Nat × pxV)} (h : pw l R y cc nL ret pc' L' (v.toList ++ st) ids2 G2 σ2 k' n' Rt) : ∀ (v' : Option pxV) (ids' : List pxI) (G' : pxG) (σ' : pxS), px_r v ids2 G2 σ2 v' ids' G' σ' → (∀ i ∈ ids, i ∈ ids') → pw l R y cc nL ret pc' L' (v'.toList ++ st) ids' G' σ' k' n' Rt := by
  rintro v' ids' G' σ' ⟨rfl, rfl, rfl, rfl⟩ _
  exact h
/-- Math.max, Math.min: as one row -/
theorem pw_mmax {idx : Nat} {a b : Int32} (hd : decode cc pc = .ok (.invokestatic idx, 3)) (h1 : Cond.methodLink y.cls idx Lib.Math.max.name ∈ pxW) (h2 : Cond.static Lib.Math.max.name ∈ pxW) (h3 : Cond.initialized "java/lang/Math" ∈ pxW) (h4 : Cond.code Lib.Math.max.name Lib.Math.max.code 2 (some .int) ∈ pxW)
    (hf : 1 ≤ R.frames) (hl : st.length + 13 ≤ R.locals) (hk : k ≤ R.cells) (hn : n ≤ R.slots) (h : pw l R y cc nL ret (pc + 3) L (.inl (if a < b then b else a) :: st) ids G σ k n Rt) : pw l R y cc nL ret pc L (.inl b :: .inl a :: st) ids G σ k n Rt := by
  intro p e s m args below meth c H locs ls D tA ad ad0 ids0 A X
  obtain ⟨hx, hb, hr, hml, hnm, hts, hown, hlk, hE, hK⟩ := X.1
  exact va_mmax hx hb (hml.trans X.2.2.1.1.symm) hown (hts _ h1) (hts _ h2) (hts _ h3) (hts _ h4) hf (by rw [px_cat_sum]; exact hl) hk hn hd (h p e s m args below meth c H locs ls D tA ad ad0 ids0 A (X.stk (px_c px_vi (px_t (px_t X.2.2.2.2.1)))))
theorem pw_mmin {idx : Nat} {a b : Int32} (hd : decode cc pc = .ok (.invokestatic idx, 3)) (h1 : Cond.methodLink y.cls idx Lib.Math.min.name ∈ pxW) (h2 : Cond.static Lib.Math.min.name ∈ pxW) (h3 : Cond.initialized "java/lang/Math" ∈ pxW) (h4 : Cond.code Lib.Math.min.name Lib.Math.min.code 2 (some .int) ∈ pxW)
    (hf : 1 ≤ R.frames) (hl : st.length + 13 ≤ R.locals) (hk : k ≤ R.cells) (hn : n ≤ R.slots) (h : pw l R y cc nL ret (pc + 3) L (.inl (if b < a then b else a) :: st) ids G σ k n Rt) : pw l R y cc nL ret pc L (.inl b :: .inl a :: st) ids G σ k n Rt := by
  intro p e s m args below meth c H locs ls D tA ad ad0 ids0 A X
  obtain ⟨hx, hb, hr, hml, hnm, hts, hown, hlk, hE, hK⟩ := X.1
  exact va_mmin hx hb (hml.trans X.2.2.1.1.symm) hown (hts _ h1) (hts _ h2) (hts _ h3) (hts _ h4) hf (by rw [px_cat_sum]; exact hl) hk hn hd (h p e s m args below meth c H locs ls D tA ad ad0 ids0 A (X.stk (px_c px_vi (px_t (px_t X.2.2.2.2.1)))))
/-- the numbers behind a copy of the first N of an int row onto another's first N -/
def px_cp (σ : pxS) (i j : pxI) (N : Nat) : pxS := fun r q => if r = j ∧ q < N then σ i q else σ r q
theorem pw_copyi {idx : Nat} {i j : pxI} {N0 N1 : Nat} {N : Nat} {c : Int32} (hd : decode cc pc = .ok (.invokestatic idx, 3)) (h1 : Cond.methodLink y.cls idx arraycopyName ∈ pxW) (h2 : Cond.native arraycopyName ∈ pxW) (h3 : Cond.static arraycopyName ∈ pxW) (h4 : Cond.initialized "java/lang/System" ∈ pxW)
    (hi : G i = .inl (0, N0)) (hj : G j = .inl (0, N1)) (hc : c.toNatClampNeg = N) (h5 : ¬ c < 0) (hN0 : N ≤ N0) (hN1 : N ≤ N1)
    (hf : 1 ≤ R.frames) (hl : st.length + (nativeFrameWords "java/lang/System" "arraycopy" 5 + 11) ≤ R.locals) (h : pw l R y cc nL ret (pc + 3) L st ids G (px_cp σ i j N) k n Rt) : pw l R y cc nL ret pc L (.inl c :: .inl 0 :: .inr (some j) :: .inl 0 :: .inr (some i) :: st) ids G σ k n Rt := by
  intro p e s m args below meth c9 H locs ls D tA ad ad0 ids0 A X
  obtain ⟨hx, hb, hr, hml, hnm, hts, hown, hlk, hE, hK⟩ := X.1
  obtain ⟨hP, hD, hS, hcl, hA⟩ := X.2.1
  obtain ⟨q1, e1⟩ := List.getElem?_of_mem (px_h (px_t (px_t X.2.2.2.2.1)) j rfl)
  obtain ⟨q0, e0⟩ := List.getElem?_of_mem (px_h (px_t (px_t (px_t (px_t X.2.2.2.2.1)))) i rfl)
  have g0 := px_ws_get (ad := ad) (tA := tA) (G := G) (σ := σ) e0
  have g1 := px_ws_get (ad := ad) (tA := tA) (G := G) (σ := σ) e1
  rw [hi] at g0
  rw [hj] at g1
  have z0 : (0 : Int32).toNatClampNeg = 0 := by decide +kernel
  refine va_copyi hx hb (hml.trans X.2.2.1.1.symm) hown (hts _ h1) (hts _ h2) (hts _ h3) (hts _ h4) hK hP hD hS q0 q1 0 0 g0 g1 rfl rfl rfl (by decide +kernel) (by decide +kernel) h5 (by rw [z0, hc]; omega) (by rw [z0, hc]; omega) (fun _ _ => rfl) hf (by rw [px_cat_sum]; exact hl) hd fun H1 locs1 hP1 hD1 hS1 => ?_
  have hset : (px_ws ad tA ids G σ).set q1 (ad j, .inl (tA 0, N1, .inl (va_cpy (σ i) (σ j) (0 : Int32).toNatClampNeg (0 : Int32).toNatClampNeg c.toNatClampNeg))) = px_ws ad tA ids G (px_cp σ i j N) := by
    rw [← px_ws_set hD e1 (G' := G) (σ' := px_cp σ i j N) (fun j' _ hj' => by
      have : px_cp σ i j N j' = σ j' := by funext q; simp [px_cp, hj']
      rw [this]), hj]
    have : px_cp σ i j N j = va_cpy (σ i) (σ j) (0 : Int32).toNatClampNeg (0 : Int32).toNatClampNeg c.toNatClampNeg := by
      funext q
      rw [z0, hc]
      simp [px_cp, va_cpy]
    show _ = List.set _ _ (ad j, Sum.inl (tA 0, N1, Sum.inl (px_cp σ i j N j)))
    rw [this]
  rw [hset] at hP1 hD1
  refine h p e s m args below meth c9 H1 locs1 ls D tA ad ad0 ids0 A ⟨X.1, ⟨hP1, hD1, hS1, ?_, hA⟩, X.2.2.1, X.2.2.2.1, px_t (px_t (px_t (px_t (px_t X.2.2.2.2.1)))), X.2.2.2.2.2⟩
  intro r hr
  have h9 := hcl r hr
  by_cases hrj : r = j
  · subst hrj
    rw [hj]
    trivial
  · have : px_cp σ i j N r = σ r := by funext q; simp [px_cp, hrj]
    rw [this]
    exact h9
/-- a switch by a row of targets: within, without -/
theorem pw_tin {dflt lo hi off : Int} {offs : Array Int} {len : Nat} {x : Int32} (c : Int32) (tgt : Nat) (hd : decode cc pc = .ok (.tableswitch dflt lo hi offs, len)) (hx : x = c) (h1 : ¬ c.toInt < lo) (h2 : ¬ hi < c.toInt) (ho : offs[(c.toInt - lo).toNat]? = some off) (ht : (pc : Int) + off = (tgt : Int))
    (h : pw l R y cc nL ret tgt L st ids G σ k n Rt) : pw l R y cc nL ret pc L (.inl x :: st) ids G σ k n Rt := by
  intro p e s m args below meth c9 H locs ls D tA ad ad0 ids0 A X
  subst hx
  exact lv_tableIn X.1.1 X.1.2.1 hd h1 h2 ho ht (h p e s m args below meth c9 H locs ls D tA ad ad0 ids0 A (X.stk (px_t X.2.2.2.2.1)))
theorem px_out {lo hi : Int} {x : Int32} (cs : List Int32) (hc : ∀ j : Nat, j < (hi - lo + 1).toNat → ∃ c ∈ cs, c.toInt = lo + j) (h : ∀ c ∈ cs, ¬ x = c) : x.toInt < lo ∨ hi < x.toInt := by
  by_cases h1 : x.toInt < lo
  · exact Or.inl h1
  · by_cases h2 : hi < x.toInt
    · exact Or.inr h2
    · obtain ⟨c, hm, e⟩ := hc (x.toInt - lo).toNat (by omega)
      exact absurd (Int32.toInt_inj.mp (by rw [e]; omega)) (h c hm)
theorem pw_tout {dflt lo hi : Int} {offs : Array Int} {len : Nat} {x : Int32} (tgt : Nat) (hd : decode cc pc = .ok (.tableswitch dflt lo hi offs, len)) (hx : x.toInt < lo ∨ hi < x.toInt) (ht : (pc : Int) + dflt = (tgt : Int))
    (h : pw l R y cc nL ret tgt L st ids G σ k n Rt) : pw l R y cc nL ret pc L (.inl x :: st) ids G σ k n Rt := by
  intro p e s m args below meth c9 H locs ls D tA ad ad0 ids0 A X
  exact lv_tableOut X.1.1 X.1.2.1 hd hx ht (h p e s m args below meth c9 H locs ls D tA ad ad0 ids0 A (X.stk (px_t X.2.2.2.2.1)))
theorem pw_look {dflt off : Int} {ps : Array (Int × Int)} {len : Nat} {x : Int32} (tgt : Nat) (hd : decode cc pc = .ok (.lookupswitch dflt ps, len)) (hp : (ps.toList.zip (ps.toList.drop 1)).all (fun (a, next) => a.1 < next.1) = true) (ho : Op.lookupswitch.offset ps.toList dflt x.toInt = off) (ht : (pc : Int) + off = (tgt : Int))
    (h : pw l R y cc nL ret tgt L st ids G σ k n Rt) : pw l R y cc nL ret pc L (.inl x :: st) ids G σ k n Rt := by
  intro p e s m args below meth c9 H locs ls D tA ad ad0 ids0 A X
  exact lv_lookup X.1.1 X.1.2.1 hd hp ho ht (h p e s m args below meth c9 H locs ls D tA ad ad0 ids0 A (X.stk (px_t X.2.2.2.2.1)))
end PXC
