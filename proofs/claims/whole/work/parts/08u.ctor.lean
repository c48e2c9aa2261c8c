/-! a reference into a field or a row of a cell that is being made; a constructor's call -/
theorem px_fs_set2 {ad : pxI → Nat} {sl : List pxK} {f : Nat → Int32} {k : Nat} {q : pxK} {x : Int32} (hk : k < sl.length) : (px_fs ad sl f).set k (px_mv ad (px_sv q x)) = px_fs ad (sl.set k q) (upd f k x) := by
  apply List.ext_getElem?
  intro j
  by_cases hj : k = j
  · subst hj
    have h1 : (sl.set k q)[k]? = some q := List.getElem?_set_self hk
    rw [List.getElem?_set_self (by simpa [px_fs] using hk), px_fs_get h1]
    simp [upd]
  · have h1 : (sl.set k q)[j]? = sl[j]? := List.getElem?_set_ne hj
    rw [List.getElem?_set_ne hj]
    cases hq : sl[j]? with
    | none =>
      rw [hq] at h1
      have h2 : sl.length ≤ j := List.getElem?_eq_none_iff.mp hq
      simp [px_fs, hq, h1, h2]
    | some q' =>
      rw [hq] at h1
      rw [px_fs_get hq, px_fs_get h1]
      simp [upd, Ne.symm hj]
theorem px_up_same {σ : pxS} {i : pxI} {k : Nat} : px_up σ i k (σ i k) = σ := by
  funext j n
  unfold px_up
  by_cases h : j = i ∧ n = k
  · rw [if_pos h, h.1, h.2]
  · rw [if_neg h]
theorem px_clo_put {ids : List pxI} {G : pxG} {σ : pxS} {i : pxI} {ci k : Nat} {sl : List pxK} {q : pxK} {x : Int32} (h : px_clo ids G σ) (hG : G i = .inr (.inr (ci, sl))) (hv : px_vv ids (px_sv q x)) : px_clo ids (px_gs G i (.inr (.inr (ci, sl.set k q)))) (px_up σ i k x) := by
  intro j hj
  have h1 := h j hj
  by_cases hji : j = i
  · subst hji
    rw [px_gs_s]
    rw [hG] at h1
    intro k' q' hq'
    by_cases hk : k = k'
    · subst hk
      have hl : k < (sl.set k q).length := (List.getElem?_eq_some_iff.mp hq').1
      rw [List.getElem?_set_self (by simpa using hl)] at hq'
      cases hq'
      have : px_up σ j k x j k = x := by simp [px_up]
      rw [this]
      exact hv
    · rw [List.getElem?_set_ne hk] at hq'
      have : px_up σ j k x j k' = σ j k' := by simp [px_up, Ne.symm hk]
      rw [this]
      exact h1 k' q' hq'
  · rw [px_gs_n hji, px_up_ne hji]
    exact h1
def px_FX (own : String) (idx ci kf : Nat) (ty : FieldType) (fin : Bool) : Prop := ∃ q : vw_C, classes[ci]? = some q ∧ kf < q.2.2 ∧ Cond.fieldLink own idx (q.2.1 kf).1 (q.2.1 kf).2.1 (q.2.1 kf).2.2.1 ∈ pxW ∧ (q.2.1 kf).2.2.2 = fin ∧ px_ty ci kf = ty ∧ (q.2.1 kf).1 = own
section PXU
variable {l : Launch} {R : Room} {y : MethodName} {cc : ByteArray} {nL : Nat} {ret : Option FieldType} {pc : Nat} {L : List (Nat × pxV)} {st : List pxV} {ids : List pxI} {G : pxG} {σ : pxS} {k n : Nat} {Rt : Option pxV → List pxI → pxG → pxS → Prop}
theorem pw_putG {idx ci kf : Nat} {sl sl' : List pxK} {i : pxI} {ty : FieldType} {v : pxV} {fin : Bool} {σ' : pxS} (q : pxK) (x : Int32) (hd : decode cc pc = .ok (.putfield idx, 3)) (hf : px_FX y.cls idx ci kf ty fin) (hin : y.name = "<init>") (hG : G i = .inr (.inr (ci, sl))) (hl : kf < sl.length) (hsl : sl.set kf q = sl') (hv : px_sv q x = v) (hn : ∀ ad : pxI → Nat, narrow ty (px_mv ad v) = px_mv ad v ∧ fits ty (px_mv ad v) = true) (hσ : σ' = px_up σ i kf x)
    (h : pw l R y cc nL ret (pc + 3) L st ids (px_gs G i (.inr (.inr (ci, sl')))) σ' k n Rt) : pw l R y cc nL ret pc L (v :: .inr (some i) :: st) ids G σ k n Rt := by
  intro p e s m args below meth c H locs ls D tA ad ad0 ids0 A X
  obtain ⟨hx, hb, hr, hml, hnm, hts, hown, hlk, hE, hK⟩ := X.1
  obtain ⟨hP, hD, hS, hcl, hA⟩ := X.2.1
  obtain ⟨qc, hc, hk, hw, hfin, hty, hdecl⟩ := hf
  subst hsl hσ hv
  have hi : i ∈ ids := px_h (px_t X.2.2.2.2.1) i rfl
  obtain ⟨q0, h0⟩ := List.getElem?_of_mem hi
  have he := px_ws_get (ad := ad) (tA := tA) (G := G) (σ := σ) h0
  rw [hG] at he
  have hset : (px_ws ad tA ids G σ).set q0 (ad i, .inr (ci, (px_fs ad sl (σ i)).set kf (px_mv ad (px_sv q x)))) = px_ws ad tA ids (px_gs G i (.inr (.inr (ci, sl.set kf q)))) (px_up σ i kf x) := by
    rw [← px_ws_set hD h0 (G' := px_gs G i (.inr (.inr (ci, sl.set kf q)))) (σ' := px_up σ i kf x) (fun j _ hj => by rw [px_up_ne hj, px_gs_n hj]), px_up_self, px_gs_s]
    show _ = List.set _ _ (ad i, Sum.inr (ci, px_fs ad (sl.set kf q) (upd (σ i) kf x)))
    rw [px_fs_set2 hl]
  have hlen : kf < (px_fs ad sl (σ i)).length := by simpa [px_fs] using hl
  have hgo : ∀ (H1 : Heap) (locs1 : List Loc), va_P D classes ((px_ws ad tA ids G σ).set q0 (ad i, .inr (ci, (px_fs ad sl (σ i)).set kf (px_mv ad (px_sv q x))))) H1 → va_D A ((px_ws ad tA ids G σ).set q0 (ad i, .inr (ci, (px_fs ad sl (σ i)).set kf (px_mv ad (px_sv q x))))) → va_S A s.heap H1 locs1 → W p l e R s m args below meth c H1 locs1 k n (MQ below (px_Qc D tA ad0 ids0 Rt A) args s R.cells R.slots A) (F0 m (pc + 3) ls (st.map (px_mv ad))) := fun H1 locs1 hP1 hD1 hS1 => by
    rw [hset] at hP1 hD1
    exact h p e s m args below meth c H1 locs1 ls D tA ad ad0 ids0 A ⟨X.1, ⟨hP1, hD1, hS1, px_clo_put hcl hG (px_h X.2.2.2.2.1), hA⟩, X.2.2.1, X.2.2.2.1, px_t (px_t X.2.2.2.2.1), X.2.2.2.2.2⟩
  cases fin with
  | false => exact va_put hx hb hts (px_cls hc).1 (px_ty ci) (px_cls hc).2.1 (px_cls hc).2.2 hown hK hP hD hS q0 he hc kf hk (hts _ hw) (fun _ h9 => h9) hfin (by rw [← hty]; exact (px_cls hc).2.1 kf hk) (hn ad).1 (hn ad).2 hlen hd hgo
  | true => exact va_putF hx hb hts (px_cls hc).1 (px_ty ci) (px_cls hc).2.1 (px_cls hc).2.2 hown hK hP hD hS q0 he hc kf hk (hts _ hw) (fun _ h9 => h9) hfin (hnm.trans hin) hdecl (by rw [← hty]; exact (px_cls hc).2.1 kf hk) (hn ad).1 (hn ad).2 hlen hd hgo
/-- a reference that stays -/
theorem pw_putS {idx ci kf : Nat} {sl sl' : List pxK} {i r : pxI} {ty : FieldType} {fin : Bool} (hd : decode cc pc = .ok (.putfield idx, 3)) (hf : px_FX y.cls idx ci kf ty fin) (hin : y.name = "<init>") (hG : G i = .inr (.inr (ci, sl))) (hl : kf < sl.length) (hsl : sl.set kf (some (.inr (some r))) = sl') (hn : ∀ a : Nat, narrow ty (.ref a) = .ref a ∧ fits ty (.ref a) = true)
    (h : pw l R y cc nL ret (pc + 3) L st ids (px_gs G i (.inr (.inr (ci, sl')))) σ k n Rt) : pw l R y cc nL ret pc L (.inr (some r) :: .inr (some i) :: st) ids G σ k n Rt :=
  pw_putG (some (.inr (some r))) (σ i kf) hd hf hin hG hl hsl rfl (fun ad => hn (ad r)) px_up_same.symm h
theorem pw_aast {i r : pxI} {j : Int32} {t N ci : Nat} {g g' : Nat → Option pxI} {sl : List pxK} {qc : vw_C} (hd : decode cc pc = .ok (.aastore, 1)) (hG : G i = .inr (.inl (t, N, g))) (hc : classes[ci]? = some qc) (ht : ∀ tA : Nat → ClassId, (px_tys tA)[t]? = some (tA t, .object qc.1)) (hr : G r = .inr (.inr (ci, sl))) (hin : vp_in j N) (hg : (fun q => if q = j.toNatClampNeg then some r else g q) = g')
    (h : pw l R y cc nL ret (pc + 1) L st ids (px_gs G i (.inr (.inl (t, N, g')))) σ k n Rt) : pw l R y cc nL ret pc L (.inr (some r) :: .inl j :: .inr (some i) :: st) ids G σ k n Rt := by
  intro p e s m args below meth c H locs ls D tA ad ad0 ids0 A X
  obtain ⟨hx, hb, hr9, hml, hnm, hts, hown, hlk, hE, hK⟩ := X.1
  obtain ⟨hP, hD, hS, hcl, hA⟩ := X.2.1
  subst hg
  have hi : i ∈ ids := px_h (px_t (px_t X.2.2.2.2.1)) i rfl
  have hri : r ∈ ids := px_h X.2.2.2.2.1 r rfl
  obtain ⟨q0, h0⟩ := List.getElem?_of_mem hi
  obtain ⟨q1, h1⟩ := List.getElem?_of_mem hri
  have he := px_ws_get (ad := ad) (tA := tA) (G := G) (σ := σ) h0
  rw [hG] at he
  have he1 := px_ws_get (ad := ad) (tA := tA) (G := G) (σ := σ) h1
  rw [hr] at he1
  have hlt : j.toNatClampNeg < N := Nat.not_le.mp fun q => hin (Or.inr q)
  have hne : i ≠ r := fun e => by rw [e, hr] at hG; cases hG
  refine va_astq hx hb hK hP hD hS q0 t q1 ci he (ht tA) he1 hc hin hd fun H1 locs1 hP1 hD1 hS1 => ?_
  have hset : (px_ws ad tA ids G σ).set q0 (ad i, .inl (tA t, N, .inr (.inr (.inr (.inr (va_up (fun q => if q < N then (g q).map ad else none) j.toNatClampNeg (some (ad r)))))))) = px_ws ad tA ids (px_gs G i (.inr (.inl (t, N, fun q => if q = j.toNatClampNeg then some r else g q)))) σ := by
    rw [← px_ws_set hD h0 (G' := px_gs G i (.inr (.inl (t, N, fun q => if q = j.toNatClampNeg then some r else g q)))) (σ' := σ) (fun j' _ hj => by rw [px_gs_n hj]), px_gs_s]
    show _ = List.set _ _ (ad i, Sum.inl (tA t, N, Sum.inr (Sum.inr (Sum.inr (Sum.inr (fun q => if q < N then (if q = j.toNatClampNeg then some r else g q).map ad else none))))))
    congr 9
    funext q
    unfold va_up
    by_cases hq : q = j.toNatClampNeg
    · rw [if_pos hq, hq, if_pos hlt, if_pos rfl]
      rfl
    · rw [if_neg hq, if_neg hq]
  rw [hset] at hP1 hD1
  refine h p e s m args below meth c H1 locs1 ls D tA ad ad0 ids0 A ⟨X.1, ⟨hP1, hD1, hS1, ?_, hA⟩, X.2.2.1, X.2.2.2.1, px_t (px_t (px_t X.2.2.2.2.1)), X.2.2.2.2.2⟩
  intro j' hj'
  have h9 := hcl j' hj'
  by_cases hji : j' = i
  · subst hji
    rw [px_gs_s]
    rw [hG] at h9
    intro q hq r' hr'
    dsimp only at hr'
    by_cases hqj : q = j.toNatClampNeg
    · rw [if_pos hqj] at hr'
      cases hr'
      exact hri
    · rw [if_neg hqj] at hr'
      exact h9 q hq r' hr'
  · rw [px_gs_n hji]
    exact h9
def px_yI (own : String) (idx : Nat) (y : MethodName) (cc : ByteArray) (nL : Nat) (N : Nat) : Prop :=
  (Cond.methodLink own idx y ∈ pxW ∨ ∃ host, (own, idx, y, host) ∈ px_nl) ∧ Cond.initialized y.cls ∈ pxW ∧ Cond.code y cc nL none ∈ pxW ∧ Cond.instanceMethod y ∈ pxW ∧ y.name = "<init>" ∧ y.cls ≠ "java/lang/invoke/MethodHandle" ∧ y.cls ≠ "java/lang/invoke/VarHandle" ∧ (parseMethodDescriptor y.desc).map (fun d => d.parameters.length) = some N
theorem pw_callI {idx N : Nat} {y' : MethodName} {cc' : ByteArray} {nL' : Nat} {R' : Room} {st0 : List pxV} {Rt' : Option pxV → List pxI → pxG → pxS → Prop} (o : pxI) (xs st : List pxV)
    (hd : decode cc pc = .ok (.invokespecial idx, 3)) (hw : px_yI y.cls idx y' cc' nL' N)
    (hst : st0 = xs.reverse ++ .inr (some o) :: st) (hN : xs.length = N) (h8 : st.length ≤ 8) (hR : R'.frames + 1 ≤ R.frames ∧ 8 + (nL' + 11) + R'.locals ≤ R.locals) (hk : k + R'.cells ≤ R.cells ∧ n + R'.slots ≤ R.slots)
    (hm : pm l y' cc' nL' none R' (.inr (some o) :: xs) ids G σ Rt')
    (h : ∀ (v : Option pxV) (ids' : List pxI) (G' : pxG) (σ' : pxS), Rt' v ids' G' σ' → (∀ i ∈ ids, i ∈ ids') → pw l R y cc nL ret (pc + 3) L (v.toList ++ st) ids' G' σ' (k + R'.cells) (n + R'.slots) Rt) :
    pw l R y cc nL ret pc L st0 ids G σ k n Rt := by
  intro p e s m args below meth c H locs ls D tA ad ad0 ids0 A X
  subst hst
  obtain ⟨hx, hb, hr, hml, hnm, hts, hown, hlk, hE, hK⟩ := X.1
  obtain ⟨hP, hD, hS, hcl, hA⟩ := X.2.1
  have hvs : ∀ v ∈ (.inr (some o) : pxV) :: xs, px_vv ids v := fun v hv => X.2.2.2.2.1 v (by
    rcases List.mem_cons.mp hv with rfl | hv
    · exact List.mem_append_right _ List.mem_cons_self
    · exact List.mem_append_left _ (List.mem_reverse.mpr hv))
  have hst : ∀ v ∈ st, px_vv ids v := fun v hv => X.2.2.2.2.1 v (List.mem_append_right _ (List.mem_cons_of_mem _ hv))
  obtain ⟨w1, w2, w3, w5, w6, w4⟩ := hw
  have hpre : PreS s H (px_Pc D tA ad ids G σ (.inr (some o) :: xs) H.size) (.ref (ad o) :: xs.map (px_mv ad)) :=
    ⟨px_blind D tA ad ids G σ _ _, fun U hU hW => ⟨rfl, by rw [hU], by rw [hU]; exact hP, va_K.moved hW.alike hK, hD.weaken (fun _ _ _ _ => trivial), hcl, hvs, hE.call hS (px_free hD hS hA) hW hU⟩⟩
  have hstk : (F0 m pc ls ((xs.reverse ++ .inr (some o) :: st).map (px_mv ad))).stack = (xs.map (px_mv ad)).reverse ++ .ref (ad o) :: st.map (px_mv ad) := by
    show List.map (px_mv ad) _ = _
    rw [List.map_append, List.map_cons, List.map_reverse]
    rfl
  rcases w1 with w1 | ⟨host, w1⟩
  · exact px_after X hst (va_runI (As := xs.map (px_mv ad)) (n := N) (own := y.cls) (index := idx) (Ts := pxW) (nL := nL) (b := ad o) ⟨hx, hb, hml, hown, hts⟩ (hm D tA ad H.size) (cwI N hts (px_good w3) rfl rfl rfl (hts _ w2) (hts _ w1) (hts _ w5) w6 w4 hR) hpre rfl (by rw [List.length_map]; exact hN) X.2.2.1.1 hstk (lv_room (by rw [px_cat_sum]; exact h8)) hd hk) h
  · exact px_after X hst (va_runIN (As := xs.map (px_mv ad)) (n := N) (own := y.cls) (index := idx) (Ts := pxW) (nL := nL) (b := ad o) (host := host) ⟨hx, hb, hml, hown, hts⟩ (hm D tA ad H.size) ⟨va_cnB N hts (px_good w3) rfl rfl rfl (hE.ns.1 _ w1) (hts _ w2) w4 hR, w6, hts _ w5⟩ hpre rfl (by rw [List.length_map]; exact hN) X.2.2.1.1 hstk (lv_room (by rw [px_cat_sum]; exact h8)) hd hk) h
end PXU
