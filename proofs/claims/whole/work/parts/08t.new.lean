/-! making: new, newarray, anewarray, a reference into a field or a row, a constructor's call -/
def px_gs (G : pxG) (i : pxI) (c : pxC) : pxG := fun j => if j = i then c else G j
theorem px_gs_s {G : pxG} {i : pxI} {c : pxC} : px_gs G i c i = c := if_pos rfl
theorem px_gs_n {G : pxG} {i j : pxI} {c : pxC} (h : j ≠ i) : px_gs G i c j = G j := if_neg h
theorem px_gs_gs {G : pxG} {i : pxI} {c c' : pxC} : px_gs (px_gs G i c) i c' = px_gs G i c' := by
  funext j
  by_cases h : j = i
  · simp [px_gs, h]
  · simp [px_gs, h]
theorem px_gs_id {G : pxG} {i : pxI} {c : pxC} (h : G i = c) : px_gs G i c = G := by
  funext j
  by_cases hj : j = i
  · subst hj
    rw [px_gs_s, h]
  · rw [px_gs_n hj]
theorem px_mv_ad {ad : pxI → Nat} {i : pxI} {a : Nat} {ids : List pxI} (hi : i ∉ ids) {v : pxV} (h : px_vv ids v) : px_mv (fun j => if j = i then a else ad j) v = px_mv ad v := by
  rcases v with x | r | r
  · rfl
  · rfl
  · show Value.ref (if r = i then a else ad r) = Value.ref (ad r)
    have hne : r ≠ i := fun e => hi (by rw [← e]; exact h r rfl)
    rw [if_neg hne]
theorem px_ce_ad {ad : pxI → Nat} {i : pxI} {a : Nat} {tA : Nat → ClassId} {ids : List pxI} {G : pxG} {σ : pxS} (hi : i ∉ ids) (hcl : px_clo ids G σ) {j : pxI} (hj : j ∈ ids) : px_ce (fun j => if j = i then a else ad j) tA (G j) (σ j) = px_ce ad tA (G j) (σ j) := by
  have h1 := hcl j hj
  cases hG : G j with
  | inl x => rfl
  | inr y =>
    cases y with
    | inl z =>
      obtain ⟨t, n, g⟩ := z
      rw [hG] at h1
      have : (fun q => if q < n then (g q).map (fun j => if j = i then a else ad j) else none) = fun q => if q < n then (g q).map ad else none := by
        funext q
        by_cases hq : q < n
        · rw [if_pos hq, if_pos hq]
          cases hg : g q with
          | none => rfl
          | some r =>
            have hr : r ∈ ids := h1 q hq r (by rw [hg])
            have hne : r ≠ i := fun e => hi (by rw [← e]; exact hr)
            show some (if r = i then a else ad r) = some (ad r)
            rw [if_neg hne]
        · rw [if_neg hq, if_neg hq]
      show (Sum.inl (tA t, n, Sum.inr (Sum.inr (Sum.inr (Sum.inr (fun q => if q < n then (g q).map (fun j => if j = i then a else ad j) else none))))) : va_E) = Sum.inl (tA t, n, Sum.inr (Sum.inr (Sum.inr (Sum.inr (fun q => if q < n then (g q).map ad else none)))))
      rw [this]
    | inr z =>
      obtain ⟨ci, sl⟩ := z
      rw [hG] at h1
      show (Sum.inr (ci, px_fs _ sl (σ j)) : va_E) = Sum.inr (ci, px_fs ad sl (σ j))
      have : px_fs (fun j => if j = i then a else ad j) sl (σ j) = px_fs ad sl (σ j) := by
        apply List.ext_getElem?
        intro k
        cases hk : sl[k]? with
        | none => simp [px_fs, hk]
        | some q =>
          rw [px_fs_get hk, px_fs_get hk, px_mv_ad hi (h1 k q hk)]
      rw [this]
theorem px_ml_ad {ad : pxI → Nat} {i : pxI} {a : Nat} {ids : List pxI} (hi : i ∉ ids) {L : List (Nat × pxV)} (hL : ∀ q ∈ L, px_vv ids q.2) : px_ml (fun j => if j = i then a else ad j) L = px_ml ad L :=
  List.map_congr_left fun q hq => by rw [px_mv_ad hi (hL q hq)]
theorem px_st_ad {ad : pxI → Nat} {i : pxI} {a : Nat} {ids : List pxI} (hi : i ∉ ids) {st : List pxV} (hs : ∀ v ∈ st, px_vv ids v) : st.map (px_mv (fun j => if j = i then a else ad j)) = st.map (px_mv ad) :=
  List.map_congr_left fun v hv => px_mv_ad hi (hs v hv)
/-- the cells with a new one behind them -/
theorem px_ws_new {ad : pxI → Nat} {i : pxI} {a : Nat} {tA : Nat → ClassId} {ids : List pxI} {G : pxG} {σ : pxS} {c : pxC} {x : va_E} (hi : i ∉ ids) (hcl : px_clo ids G σ) (hx : px_ce (fun j => if j = i then a else ad j) tA c (σ i) = x) :
    px_ws ad tA ids G σ ++ [(a, x)] = px_ws (fun j => if j = i then a else ad j) tA (ids ++ [i]) (px_gs G i c) σ := by
  unfold px_ws
  rw [List.map_append]
  have h1 : ids.map (fun j => (ad j, px_ce ad tA (G j) (σ j))) = ids.map (fun j => ((fun j => if j = i then a else ad j) j, px_ce (fun j => if j = i then a else ad j) tA (px_gs G i c j) (σ j))) := by
    refine List.map_congr_left fun j hj => ?_
    have hne : j ≠ i := fun e => hi (by rw [← e]; exact hj)
    rw [px_gs_n hne, px_ce_ad hi hcl hj]
    show _ = (if j = i then a else ad j, _)
    rw [if_neg hne]
  rw [h1]
  congr 1
  show _ = [((if i = i then a else ad i), px_ce _ tA (px_gs G i c i) (σ i))]
  rw [if_pos rfl, px_gs_s, hx]
theorem px_clo_new {ids : List pxI} {G : pxG} {σ : pxS} {i : pxI} {c : pxC} (hi : i ∉ ids) (hcl : px_clo ids G σ) (hc : match c with
  | .inl _ => True
  | .inr (.inl (_, n, g)) => ∀ j, j < n → g j = none
  | .inr (.inr (_, sl)) => ∀ (k : Nat) (q : pxK), sl[k]? = some q → q = none ∨ q = some (.inr none)) : px_clo (ids ++ [i]) (px_gs G i c) σ := by
  intro j hj
  rcases List.mem_append.mp hj with hj | hj
  · have hne : j ≠ i := fun e => hi (by rw [← e]; exact hj)
    have h1 := hcl j hj
    rw [px_gs_n hne]
    cases hG : G j with
    | inl x => trivial
    | inr y =>
      cases y with
      | inl z =>
        rw [hG] at h1
        exact fun q hq r hr => List.mem_append_left _ (h1 q hq r hr)
      | inr z =>
        rw [hG] at h1
        exact fun k q hq r hr => List.mem_append_left _ (h1 k q hq r hr)
  · have he : j = i := by simpa using hj
    subst he
    rw [px_gs_s]
    cases c with
    | inl x => trivial
    | inr y =>
      cases y with
      | inl z =>
        intro q hq r hr
        rw [hc q hq] at hr
        cases hr
      | inr z =>
        intro k q hq r hr
        rcases hc k q hq with rfl | rfl
        · cases hr
        · cases hr
section PXN
variable {l : Launch} {R : Room} {y : MethodName} {cc : ByteArray} {nL : Nat} {ret : Option FieldType} {pc : Nat} {L : List (Nat × pxV)} {st : List pxV} {ids : List pxI} {G : pxG} {σ : pxS} {k n : Nat} {Rt : Option pxV → List pxI → pxG → pxS → Prop}
/-- a system with a new cell stands as before -/
theorem px_X.new {p : Program} {e : Env} {s : State} {m : MethodId} {args : Array Value} {below : List Frame} {meth : Method} {c : Code} {H H1 : Heap} {locs locs1 : List Loc} {ls : Array Slot} {D : va_G} {tA : Nat → ClassId} {ad ad0 : pxI → Nat} {ids0 : List pxI} {A : Nat → Prop} {i : pxI} {a : Nat} {cl : pxC} {st' : List pxV}
    (X : px_X p l e R s m args below meth c H locs ls D tA ad ad0 ids0 A y cc nL ret L st ids G σ) (hi : i ∉ ids) (hst : ∀ v ∈ st', px_vv ids v) (hP : va_P D classes (px_ws (fun j => if j = i then a else ad j) tA (ids ++ [i]) (px_gs G i cl) σ) H1) (hD : va_D A (px_ws (fun j => if j = i then a else ad j) tA (ids ++ [i]) (px_gs G i cl) σ)) (hS : va_S A s.heap H1 locs1) (hc : px_clo (ids ++ [i]) (px_gs G i cl) σ) :
    px_X p l e R s m args below meth c H1 locs1 ls D tA (fun j => if j = i then a else ad j) ad0 ids0 A y cc nL ret L (.inr (some i) :: st') (ids ++ [i]) (px_gs G i cl) σ :=
  ⟨X.1, ⟨hP, hD, hS, hc, X.2.1.2.2.2.2⟩, by rw [px_ml_ad hi X.2.2.2.1]; exact X.2.2.1, fun q hq r hr => List.mem_append_left _ (X.2.2.2.1 q hq r hr), px_c (fun r hr => by cases hr; exact List.mem_append_right _ List.mem_cons_self) (fun v hv r hr => List.mem_append_left _ (hst v hv r hr)), fun j hj => List.mem_append_left _ (X.2.2.2.2.2.1 j hj), fun j hj => by
    have hne : j ≠ i := fun e => hi (by rw [← e]; exact X.2.2.2.2.2.1 j hj)
    show (if j = i then a else ad j) = ad0 j
    rw [if_neg hne]
    exact X.2.2.2.2.2.2 j hj⟩
theorem pw_new {idx ci : Nat} {q : vw_C} {sl : List pxK} (i : pxI) (hd : decode cc pc = .ok (.new idx, 3)) (hq : classes[ci]? = some q) (w1 : Cond.classLink y.cls idx q.1 ∈ pxW) (w2 : Cond.instantiable q.1 q.2.2 ∈ pxW) (w3 : Cond.initialized q.1 ∈ pxW) (hi : i ∉ ids) (hz : ∀ j, σ i j = 0)
    (hsl : ∀ j, j < q.2.2 → (sl[j]? = some none ∧ defaultValue (px_ty ci j) = .int 0) ∨ (sl[j]? = some (some (.inr none)) ∧ defaultValue (px_ty ci j) = .null)) (hl : sl.length = q.2.2) (hk : k + 1 ≤ R.cells) (hn : n + q.2.2 ≤ R.slots)
    (h : pw l R y cc nL ret (pc + 3) L (.inr (some i) :: st) (ids ++ [i]) (px_gs G i (.inr (.inr (ci, sl)))) σ (k + 1) (n + q.2.2) Rt) : pw l R y cc nL ret pc L st ids G σ k n Rt := by
  intro p e s m args below meth c H locs ls D tA ad ad0 ids0 A X
  obtain ⟨hx, hb, hr, hml, hnm, hts, hown, hlk, hE, hK⟩ := X.1
  obtain ⟨hP, hD, hS, hcl, hA⟩ := X.2.1
  refine va_new (fs := px_fs ad sl (σ i)) hx hb hts (px_cls hq).1 (px_ty ci) (px_cls hq).2.1 hown (hts _ w1) (hts _ w2) (hts _ w3) hK hP hD hS hA hq (fun j hj => ?_) hk hn hd fun a H1 hP1 hD1 hS1 => ?_
  · unfold vp_V
    rcases hsl j hj with ⟨h1, h2⟩ | ⟨h1, h2⟩
    · rw [h2, List.getD_eq_getElem?_getD, px_fs_get h1, hz]
      rfl
    · rw [h2, List.getD_eq_getElem?_getD, px_fs_get h1]
      rfl
  · have hce : px_ce (fun j => if j = i then a else ad j) tA (.inr (.inr (ci, sl))) (σ i) = .inr (ci, px_fs ad sl (σ i)) := by
      show (Sum.inr (ci, px_fs _ sl (σ i)) : va_E) = _
      congr 2
      apply List.ext_getElem?
      intro j
      cases hj : sl[j]? with
      | none => simp [px_fs, hj]
      | some q' =>
        rw [px_fs_get hj, px_fs_get hj]
        have hlt : j < q.2.2 := by rw [← hl]; exact (List.getElem?_eq_some_iff.mp hj).1
        rcases hsl j hlt with ⟨h1, _⟩ | ⟨h1, _⟩
        · rw [h1] at hj; cases hj; rfl
        · rw [h1] at hj; cases hj; rfl
    rw [px_ws_new hi hcl hce] at hP1 hD1
    have hst := px_st_ad (a := a) (ad := ad) hi X.2.2.2.2.1
    have hc2 : px_clo (ids ++ [i]) (px_gs G i (.inr (.inr (ci, sl)))) σ := px_clo_new hi hcl (fun j q' hj => by
      have hlt : j < q.2.2 := by rw [← hl]; exact (List.getElem?_eq_some_iff.mp hj).1
      rcases hsl j hlt with ⟨h1, _⟩ | ⟨h1, _⟩
      · rw [h1] at hj; cases hj; exact Or.inl rfl
      · rw [h1] at hj; cases hj; exact Or.inr rfl)
    have hw := h p e s m args below meth c H1 locs ls D tA _ ad0 ids0 A (X.new hi X.2.2.2.2.1 hP1 hD1 hS1 hc2)
    rw [List.map_cons, hst] at hw
    have e1 : px_mv (fun j => if j = i then a else ad j) (.inr (some i)) = .ref a := by
      show Value.ref (if i = i then a else ad i) = _
      rw [if_pos rfl]
    rw [e1] at hw
    exact hw
theorem pw_newa {atype : ArrayType} {ty : FieldType} {c : Int32} {t N : Nat} (i : pxI) (hd : decode cc pc = .ok (.newarray atype, 2)) (hty : newarray.typeOf atype = ty) (w : Cond.arrayClass (newarray.typeOf atype) ∈ pxW) (ht : ∀ tA : Nat → ClassId, (px_tys tA)[t]? = some (tA t, ty)) (hob : ∀ C, ty ≠ .object C) (hdv : defaultValue ty = .int 0) (hc : ¬ c < 0) (hN : c.toNatClampNeg = N) (hby : N * componentBytes ty ≤ 536870912) (hi : i ∉ ids) (hz : ∀ j, σ i j = 0) (hk : k + 1 ≤ R.cells) (hn : n + N ≤ R.slots)
    (h : pw l R y cc nL ret (pc + 2) L (.inr (some i) :: st) (ids ++ [i]) (px_gs G i (.inl (t, N))) σ (k + 1) (n + N) Rt) : pw l R y cc nL ret pc L (.inl c :: st) ids G σ k n Rt := by
  intro p e s m args below meth c9 H locs ls D tA ad ad0 ids0 A X
  obtain ⟨hx, hb, hr, hml, hnm, hts, hown, hlk, hE, hK⟩ := X.1
  obtain ⟨hP, hD, hS, hcl, hA⟩ := X.2.1
  refine va_newa (a0 := (N, .inl (σ i))) hx hb (hts _ w) hty hK hP hD hS hA (fun cA => ?_) hc hN hby hk hn hd fun a cA H1 hK1 hP1 hD1 hS1 => ?_
  · rw [vp_cell_i]
    congr 1
    funext j
    rw [hz, hdv]
  · have h1 : s.vm.findClass ("[" ++ ty.toString) = some cA := by
      have := (hK1.2 (px_tys tA).length (cA, ty) (by simp)).2
      cases ty <;> first | exact this | exact absurd rfl (hob _)
    have h2 : s.vm.findClass ("[" ++ ty.toString) = some (tA t) := by
      have := (hK.2 t _ (ht tA)).2
      cases ty <;> first | exact this | exact absurd rfl (hob _)
    have he : cA = tA t := Option.some.inj (h1.symm.trans h2)
    subst he
    rw [px_ws_new hi hcl (c := .inl (t, N)) (x := .inl (tA t, N, .inl (σ i))) rfl] at hP1 hD1
    have hw := h p e s m args below meth c9 H1 locs ls D tA _ ad0 ids0 A (X.new hi (px_t X.2.2.2.2.1) hP1 hD1 hS1 (px_clo_new hi hcl trivial))
    rw [List.map_cons, px_st_ad (a := a) (ad := ad) hi (px_t X.2.2.2.2.1)] at hw
    have e1 : px_mv (fun j => if j = i then a else ad j) (.inr (some i)) = .ref a := by
      show Value.ref (if i = i then a else ad i) = _
      rw [if_pos rfl]
    rw [e1] at hw
    exact hw
theorem pw_newq {idx : Nat} {C : String} {c : Int32} {t N : Nat} (i : pxI) (hd : decode cc pc = .ok (.anewarray idx, 3)) (w1 : Cond.classLink y.cls idx C ∈ pxW) (w2 : C ∈ px_nr) (ht : ∀ tA : Nat → ClassId, (px_tys tA)[t]? = some (tA t, .object C)) (hc : ¬ c < 0) (hN : c.toNatClampNeg = N) (hby : N * 4 ≤ 536870912) (hi : i ∉ ids) (hk : k + 1 ≤ R.cells) (hn : n + N ≤ R.slots)
    (h : pw l R y cc nL ret (pc + 3) L (.inr (some i) :: st) (ids ++ [i]) (px_gs G i (.inr (.inl (t, N, fun _ => none)))) σ (k + 1) (n + N) Rt) : pw l R y cc nL ret pc L (.inl c :: st) ids G σ k n Rt := by
  intro p e s m args below meth c9 H locs ls D tA ad ad0 ids0 A X
  obtain ⟨hx, hb, hr, hml, hnm, hts, hown, hlk, hE, hK⟩ := X.1
  obtain ⟨hP, hD, hS, hcl, hA⟩ := X.2.1
  refine va_newq hx hb hown (hts _ w1) (hE.ns.2 _ w2) hK hP hD hS hA hc hN hby hk hn hd fun a cA H1 hK1 hP1 hD1 hS1 => ?_
  obtain ⟨_, _, _, _, _, h1⟩ := (hK1.2 (px_tys tA).length (cA, .object C) (by simp)).2
  obtain ⟨_, _, _, _, _, h2⟩ := (hK.2 t _ (ht tA)).2
  have he : cA = tA t := Option.some.inj (h1.symm.trans h2)
  subst he
  have hce : px_ce (fun j => if j = i then a else ad j) tA (.inr (.inl (t, N, fun _ => none))) (σ i) = .inl (tA t, N, .inr (.inr (.inr (.inr fun _ => none)))) := by
    show (Sum.inl (tA t, N, Sum.inr (Sum.inr (Sum.inr (Sum.inr (fun q => if q < N then (none : Option pxI).map _ else none))))) : va_E) = _
    congr 7
    funext q
    by_cases h : q < N
    · rw [if_pos h]; rfl
    · rw [if_neg h]
  rw [px_ws_new hi hcl hce] at hP1 hD1
  have hw := h p e s m args below meth c9 H1 locs ls D tA _ ad0 ids0 A (X.new hi (px_t X.2.2.2.2.1) hP1 hD1 hS1 (px_clo_new hi hcl (fun _ _ => rfl)))
  rw [List.map_cons, px_st_ad (a := a) (ad := ad) hi (px_t X.2.2.2.2.1)] at hw
  have e1 : px_mv (fun j => if j = i then a else ad j) (.inr (some i)) = .ref a := by
    show Value.ref (if i = i then a else ad i) = _
    rw [if_pos rfl]
  rw [e1] at hw
  exact hw
theorem pw_objinit {idx : Nat} {r : pxI} (hd : decode cc pc = .ok (.invokespecial idx, 3)) (w1 : Cond.methodLink y.cls idx Lib.objectInit ∈ pxW) (w2 : Cond.instanceMethod Lib.objectInit ∈ pxW) (w3 : Cond.code Lib.objectInit ⟨#[0xb1]⟩ 1 none ∈ pxW) (hf : 1 ≤ R.frames) (hl : st.length + 12 ≤ R.locals)
    (h : pw l R y cc nL ret (pc + 3) L st ids G σ k n Rt) : pw l R y cc nL ret pc L (.inr (some r) :: st) ids G σ k n Rt := by
  intro p e s m args below meth c9 H locs ls D tA ad ad0 ids0 A X
  obtain ⟨hx, hb, hr, hml, hnm, hts, hown, hlk, hE, hK⟩ := X.1
  refine W.objInit (a := ad r) (rest := st.map (px_mv ad)) hx hb hown (hts _ w1) (hts _ w2) (hts _ w3) rfl (X.2.2.1.1.trans hml.symm) rfl hd hf ?_ ?_
  · show 2 * 0 + _ + 12 ≤ _
    rw [px_cat_sum]
    omega
  · exact h p e s m args below meth c9 H locs ls D tA ad ad0 ids0 A (X.stk (px_t X.2.2.2.2.1))
end PXN
