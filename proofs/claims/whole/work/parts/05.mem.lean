/-! cells: fields, arrays; ends -/
def px_F (own : String) (idx ci kf : Nat) : Prop := ∃ q : vw_C, classes[ci]? = some q ∧ kf < q.2.2 ∧ Cond.fieldLink own idx (q.2.1 kf).1 (q.2.1 kf).2.1 (q.2.1 kf).2.2.1 ∈ pxW
def px_FW (own : String) (idx ci kf : Nat) (ty : FieldType) : Prop := ∃ q : vw_C, classes[ci]? = some q ∧ kf < q.2.2 ∧ Cond.fieldLink own idx (q.2.1 kf).1 (q.2.1 kf).2.1 (q.2.1 kf).2.2.1 ∈ pxW ∧ (q.2.1 kf).2.2.2 = false ∧ px_ty ci kf = ty
theorem px_clo_up {ids : List pxI} {G : pxG} {σ : pxS} {i : pxI} {k : Nat} {x : Int32} (h : px_clo ids G σ) (hi : ∀ (c : Nat) (sl : List pxK) (q : pxK), G i = .inr (.inr (c, sl)) → sl[k]? = some q → px_vv ids (px_sv q x)) : px_clo ids G (px_up σ i k x) := by
  intro j hj
  have h1 := h j hj
  cases hG : G j with
  | inl a => trivial
  | inr b =>
    cases b with
    | inl a => rw [hG] at h1; exact h1
    | inr a =>
      rw [hG] at h1
      intro k' q hq
      by_cases hji : j = i
      · subst hji
        by_cases hk : k' = k
        · subst hk
          have := hi a.1 a.2 q hG hq
          simpa [px_up] using this
        · have := h1 k' q hq
          simpa [px_up, hk] using this
      · have := h1 k' q hq
        simpa [px_up, hji] using this
section PXM
variable {l : Launch} {R : Room} {y : MethodName} {cc : ByteArray} {nL : Nat} {ret : Option FieldType} {pc : Nat} {L : List (Nat × pxV)} {st : List pxV} {ids : List pxI} {G : pxG} {σ : pxS} {k n : Nat} {Rt : Option pxV → List pxI → pxG → pxS → Prop}
theorem pw_getf {idx ci kf : Nat} {q : pxK} {sl : List pxK} {i : pxI} {v : pxV} (hd : decode cc pc = .ok (.getfield idx, 3)) (hf : px_F y.cls idx ci kf) (hG : G i = .inr (.inr (ci, sl))) (hq : sl[kf]? = some q) (hv : px_sv q (σ i kf) = v)
    (h : pw l R y cc nL ret (pc + 3) L (v :: st) ids G σ k n Rt) : pw l R y cc nL ret pc L (.inr (some i) :: st) ids G σ k n Rt := by
  intro p e s m args below meth c H locs ls D tA ad ad0 ids0 A X
  obtain ⟨hx, hb, hr, hml, hnm, hts, hown, hlk, hE, hK⟩ := X.1
  obtain ⟨hP, hD, hS, hcl, hA⟩ := X.2.1
  obtain ⟨qc, hc, hk, hw⟩ := hf
  have hi : i ∈ ids := px_h X.2.2.2.2.1 i rfl
  obtain ⟨q0, h0⟩ := List.getElem?_of_mem hi
  have he := px_ws_get (ad := ad) (tA := tA) (G := G) (σ := σ) h0
  rw [hG] at he
  have hvv : px_vv ids v := by
    have h1 := hcl i hi
    rw [hG] at h1
    rw [← hv]
    exact h1 kf q hq
  exact va_get hx hb hts (px_cls hc).1 hown hK hP q0 he hc kf hk (hts _ hw) (fun _ h9 => h9) (by rw [px_fs_get hq, hv]) hd (h p e s m args below meth c H locs ls D tA ad ad0 ids0 A (X.stk (px_c hvv (px_t X.2.2.2.2.1))))
/-- a number, or a reference by its number, into a field -/
theorem pw_put {idx ci kf : Nat} {q : pxK} {sl : List pxK} {i : pxI} {x : Int32} {ty : FieldType} {v : pxV} (hd : decode cc pc = .ok (.putfield idx, 3)) (hf : px_FW y.cls idx ci kf ty) (hG : G i = .inr (.inr (ci, sl))) (hq : sl[kf]? = some q) (hv : px_sv q x = v)
    (hn : ∀ ad : pxI → Nat, narrow ty (px_mv ad v) = px_mv ad v ∧ fits ty (px_mv ad v) = true)
    (h : pw l R y cc nL ret (pc + 3) L st ids G (px_up σ i kf x) k n Rt) : pw l R y cc nL ret pc L (v :: .inr (some i) :: st) ids G σ k n Rt := by
  intro p e s m args below meth c H locs ls D tA ad ad0 ids0 A X
  obtain ⟨hx, hb, hr, hml, hnm, hts, hown, hlk, hE, hK⟩ := X.1
  obtain ⟨hP, hD, hS, hcl, hA⟩ := X.2.1
  obtain ⟨qc, hc, hk, hw, hfin, hty⟩ := hf
  have hi : i ∈ ids := px_h (px_t X.2.2.2.2.1) i rfl
  obtain ⟨q0, h0⟩ := List.getElem?_of_mem hi
  have he := px_ws_get (ad := ad) (tA := tA) (G := G) (σ := σ) h0
  rw [hG] at he
  have hset : (px_ws ad tA ids G σ).set q0 (ad i, .inr (ci, (px_fs ad sl (σ i)).set kf (px_mv ad v))) = px_ws ad tA ids G (px_up σ i kf x) := by
    rw [← px_ws_set hD h0 (G' := G) (σ' := px_up σ i kf x) (fun j _ hj => by rw [px_up_ne hj]), px_up_self, hG]
    show _ = List.set _ _ (ad i, Sum.inr (ci, px_fs ad sl (upd (σ i) kf x)))
    rw [← hv, px_fs_set hq]
  refine va_put hx hb hts (px_cls hc).1 (px_ty ci) (px_cls hc).2.1 (px_cls hc).2.2 hown hK hP hD hS q0 he hc kf hk (hts _ hw) (fun _ h9 => h9) hfin (by rw [← hty]; exact (px_cls hc).2.1 kf hk) (hn ad).1 (hn ad).2 ?_ hd fun H1 locs1 hP1 hD1 hS1 => ?_
  · have := (List.getElem?_eq_some_iff.mp (px_fs_get (ad := ad) (f := σ i) hq)).1
    exact this
  · rw [hset] at hP1 hD1
    exact h p e s m args below meth c H1 locs1 ls D tA ad ad0 ids0 A ⟨X.1, ⟨hP1, hD1, hS1, px_clo_up hcl (fun c' sl' q' e1 e2 => by
      rw [hG] at e1
      cases e1
      rw [hq] at e2
      cases e2
      rw [hv]
      exact px_h X.2.2.2.2.1), hA⟩, X.2.2.1, X.2.2.2.1, px_t (px_t X.2.2.2.2.1), X.2.2.2.2.2⟩
theorem pw_puti {idx ci kf : Nat} {sl : List pxK} {i : pxI} {x : Int32} (hd : decode cc pc = .ok (.putfield idx, 3)) (hf : px_FW y.cls idx ci kf .int) (hG : G i = .inr (.inr (ci, sl))) (hq : sl[kf]? = some none)
    (h : pw l R y cc nL ret (pc + 3) L st ids G (px_up σ i kf x) k n Rt) : pw l R y cc nL ret pc L (.inl x :: .inr (some i) :: st) ids G σ k n Rt :=
  pw_put hd hf hG hq rfl (fun ad => ⟨rfl, rfl⟩) h
theorem px_bool {x : Int32} (h : x = 0 ∨ x = 1) : narrow .boolean (.int x) = .int x ∧ fits .boolean (.int x) = true := by
  rcases h with rfl | rfl <;> exact ⟨by decide +kernel, by decide +kernel⟩
theorem pw_putz {idx ci kf : Nat} {sl : List pxK} {i : pxI} {x : Int32} (hd : decode cc pc = .ok (.putfield idx, 3)) (hf : px_FW y.cls idx ci kf .boolean) (hG : G i = .inr (.inr (ci, sl))) (hq : sl[kf]? = some none) (hb : x = 0 ∨ x = 1)
    (h : pw l R y cc nL ret (pc + 3) L st ids G (px_up σ i kf x) k n Rt) : pw l R y cc nL ret pc L (.inl x :: .inr (some i) :: st) ids G σ k n Rt :=
  pw_put hd hf hG hq rfl (fun ad => px_bool hb) h
theorem pw_putr {idx ci kf kd : Nat} {sl : List pxK} {i : pxI} {C : String} (x : Int32) (hd : decode cc pc = .ok (.putfield idx, 3)) (hf : px_FW y.cls idx ci kf (.object C)) (hG : G i = .inr (.inr (ci, sl))) (hq : sl[kf]? = some (some (.inl kd)))
    (h : pw l R y cc nL ret (pc + 3) L st ids G (px_up σ i kf x) k n Rt) : pw l R y cc nL ret pc L (.inr (some (kd, x.toNatClampNeg, 0)) :: .inr (some i) :: st) ids G σ k n Rt :=
  pw_put hd hf hG hq rfl (fun ad => ⟨rfl, rfl⟩) h
theorem pw_iald {i : pxI} {j : Int32} {N : Nat} (hd : decode cc pc = .ok (.iaload, 1)) (hG : G i = .inl (0, N)) (hin : vp_in j N)
    (h : pw l R y cc nL ret (pc + 1) L (.inl (σ i j.toNatClampNeg) :: st) ids G σ k n Rt) : pw l R y cc nL ret pc L (.inl j :: .inr (some i) :: st) ids G σ k n Rt := by
  intro p e s m args below meth c H locs ls D tA ad ad0 ids0 A X
  obtain ⟨hx, hb, hr, hml, hnm, hts, hown, hlk, hE, hK⟩ := X.1
  obtain ⟨hP, hD, hS, hcl, hA⟩ := X.2.1
  obtain ⟨q0, h0⟩ := List.getElem?_of_mem (px_h (px_t X.2.2.2.2.1) i rfl)
  have he := px_ws_get (ad := ad) (tA := tA) (G := G) (σ := σ) h0
  rw [hG] at he
  exact va_iald hx hb hK hP q0 0 he rfl hin hd (h p e s m args below meth c H locs ls D tA ad ad0 ids0 A (X.stk (px_c px_vi (px_t (px_t X.2.2.2.2.1)))))
theorem pw_bald {i : pxI} {j : Int32} {N : Nat} (hd : decode cc pc = .ok (.baload, 1)) (hG : G i = .inl (1, N)) (hin : vp_in j N)
    (h : pw l R y cc nL ret (pc + 1) L (.inl (σ i j.toNatClampNeg) :: st) ids G σ k n Rt) : pw l R y cc nL ret pc L (.inl j :: .inr (some i) :: st) ids G σ k n Rt := by
  intro p e s m args below meth c H locs ls D tA ad ad0 ids0 A X
  obtain ⟨hx, hb, hr, hml, hnm, hts, hown, hlk, hE, hK⟩ := X.1
  obtain ⟨hP, hD, hS, hcl, hA⟩ := X.2.1
  obtain ⟨q0, h0⟩ := List.getElem?_of_mem (px_h (px_t X.2.2.2.2.1) i rfl)
  have he := px_ws_get (ad := ad) (tA := tA) (G := G) (σ := σ) h0
  rw [hG] at he
  exact va_bald hx hb hK hP q0 1 he rfl hin hd (h p e s m args below meth c H locs ls D tA ad ad0 ids0 A (X.stk (px_c px_vi (px_t (px_t X.2.2.2.2.1)))))
theorem pw_zald {i : pxI} {j : Int32} {N : Nat} (hd : decode cc pc = .ok (.baload, 1)) (hG : G i = .inl (2, N)) (hin : vp_in j N)
    (h : pw l R y cc nL ret (pc + 1) L (.inl (σ i j.toNatClampNeg) :: st) ids G σ k n Rt) : pw l R y cc nL ret pc L (.inl j :: .inr (some i) :: st) ids G σ k n Rt := by
  intro p e s m args below meth c H locs ls D tA ad ad0 ids0 A X
  obtain ⟨hx, hb, hr, hml, hnm, hts, hown, hlk, hE, hK⟩ := X.1
  obtain ⟨hP, hD, hS, hcl, hA⟩ := X.2.1
  obtain ⟨q0, h0⟩ := List.getElem?_of_mem (px_h (px_t X.2.2.2.2.1) i rfl)
  have he := px_ws_get (ad := ad) (tA := tA) (G := G) (σ := σ) h0
  rw [hG] at he
  exact va_zald hx hb hK hP q0 2 he rfl hin hd (h p e s m args below meth c H locs ls D tA ad ad0 ids0 A (X.stk (px_c px_vi (px_t (px_t X.2.2.2.2.1)))))
theorem pw_aald {i : pxI} {j : Int32} {t N : Nat} {g : Nat → Option pxI} {r : pxI} {C : String} (hd : decode cc pc = .ok (.aaload, 1)) (hG : G i = .inr (.inl (t, N, g))) (ht : ∀ tA : Nat → ClassId, (px_tys tA)[t]? = some (tA t, .object C)) (hin : vp_in j N) (hg : g j.toNatClampNeg = some r)
    (h : pw l R y cc nL ret (pc + 1) L (.inr (some r) :: st) ids G σ k n Rt) : pw l R y cc nL ret pc L (.inl j :: .inr (some i) :: st) ids G σ k n Rt := by
  intro p e s m args below meth c H locs ls D tA ad ad0 ids0 A X
  obtain ⟨hx, hb, hr, hml, hnm, hts, hown, hlk, hE, hK⟩ := X.1
  obtain ⟨hP, hD, hS, hcl, hA⟩ := X.2.1
  have hi : i ∈ ids := px_h (px_t X.2.2.2.2.1) i rfl
  obtain ⟨q0, h0⟩ := List.getElem?_of_mem hi
  have he := px_ws_get (ad := ad) (tA := tA) (G := G) (σ := σ) h0
  rw [hG] at he
  have hlt : j.toNatClampNeg < N := Nat.not_le.mp fun q => hin (Or.inr q)
  have hvv : px_vv ids (.inr (some r)) := by
    have h1 := hcl i hi
    rw [hG] at h1
    rw [← hg]
    exact h1 _ hlt
  refine va_aldq hx hb hK hP q0 t he (ht tA) hin hd ?_
  show W p l e R s m args below meth c H locs k n _ (F0 m (pc + 1) ls (va_rf (if j.toNatClampNeg < N then (g j.toNatClampNeg).map ad else none) :: st.map (px_mv ad)))
  rw [if_pos hlt, hg]
  exact h p e s m args below meth c H locs ls D tA ad ad0 ids0 A (X.stk (px_c hvv (px_t (px_t X.2.2.2.2.1))))
theorem pw_alen {i : pxI} {t N : Nat} {v : Int32} (hd : decode cc pc = .ok (.arraylength, 1)) (hG : G i = .inl (t, N)) (ht : ∃ ty, ∀ tA : Nat → ClassId, (px_tys tA)[t]? = some (tA t, ty)) (hv : Int32.ofNat N = v)
    (h : pw l R y cc nL ret (pc + 1) L (.inl v :: st) ids G σ k n Rt) : pw l R y cc nL ret pc L (.inr (some i) :: st) ids G σ k n Rt := by
  intro p e s m args below meth c H locs ls D tA ad ad0 ids0 A X
  obtain ⟨hx, hb, hr, hml, hnm, hts, hown, hlk, hE, hK⟩ := X.1
  obtain ⟨hP, hD, hS, hcl, hA⟩ := X.2.1
  obtain ⟨q0, h0⟩ := List.getElem?_of_mem (px_h X.2.2.2.2.1 i rfl)
  have he := px_ws_get (ad := ad) (tA := tA) (G := G) (σ := σ) h0
  rw [hG] at he
  obtain ⟨ty, ht⟩ := ht
  exact va_alen hx hb hK hP q0 t he (ht tA) hv hd (h p e s m args below meth c H locs ls D tA ad ad0 ids0 A (X.stk (px_c px_vi (px_t X.2.2.2.2.1))))
theorem px_arr_set {A : Nat → Prop} {ad : pxI → Nat} {tA : Nat → ClassId} {q0 t N j : Nat} {i : pxI} {x : Int32} (hD : va_D A (px_ws ad tA ids G σ)) (h0 : ids[q0]? = some i) (hG : G i = .inl (t, N)) : (px_ws ad tA ids G σ).set q0 (ad i, .inl (tA t, N, .inl (upd (σ i) j x))) = px_ws ad tA ids G (px_up σ i j x) := by
  rw [← px_ws_set hD h0 (G' := G) (σ' := px_up σ i j x) (fun j' _ hj => by rw [px_up_ne hj]), px_up_self, hG]
  rfl
theorem pw_iast {i : pxI} {j x : Int32} {N : Nat} (hd : decode cc pc = .ok (.iastore, 1)) (hG : G i = .inl (0, N)) (hin : vp_in j N)
    (h : pw l R y cc nL ret (pc + 1) L st ids G (px_up σ i j.toNatClampNeg x) k n Rt) : pw l R y cc nL ret pc L (.inl x :: .inl j :: .inr (some i) :: st) ids G σ k n Rt := by
  intro p e s m args below meth c H locs ls D tA ad ad0 ids0 A X
  obtain ⟨hx, hb, hr, hml, hnm, hts, hown, hlk, hE, hK⟩ := X.1
  obtain ⟨hP, hD, hS, hcl, hA⟩ := X.2.1
  obtain ⟨q0, h0⟩ := List.getElem?_of_mem (px_h (px_t (px_t X.2.2.2.2.1)) i rfl)
  have he := px_ws_get (ad := ad) (tA := tA) (G := G) (σ := σ) h0
  rw [hG] at he
  refine va_iast hx hb hK hP hD hS q0 0 he rfl hin hd fun H1 locs1 hP1 hD1 hS1 => ?_
  rw [px_arr_set hD h0 hG] at hP1 hD1
  exact h p e s m args below meth c H1 locs1 ls D tA ad ad0 ids0 A ⟨X.1, ⟨hP1, hD1, hS1, px_clo_up hcl (fun c' sl' q' e1 _ => by rw [hG] at e1; cases e1), hA⟩, X.2.2.1, X.2.2.2.1, px_t (px_t (px_t X.2.2.2.2.1)), X.2.2.2.2.2⟩
theorem pw_bast {i : pxI} {j x : Int32} {N : Nat} (hd : decode cc pc = .ok (.bastore, 1)) (hG : G i = .inl (1, N)) (hin : vp_in j N)
    (h : pw l R y cc nL ret (pc + 1) L st ids G (px_up σ i j.toNatClampNeg (vp_nar .byte x)) k n Rt) : pw l R y cc nL ret pc L (.inl x :: .inl j :: .inr (some i) :: st) ids G σ k n Rt := by
  intro p e s m args below meth c H locs ls D tA ad ad0 ids0 A X
  obtain ⟨hx, hb, hr, hml, hnm, hts, hown, hlk, hE, hK⟩ := X.1
  obtain ⟨hP, hD, hS, hcl, hA⟩ := X.2.1
  obtain ⟨q0, h0⟩ := List.getElem?_of_mem (px_h (px_t (px_t X.2.2.2.2.1)) i rfl)
  have he := px_ws_get (ad := ad) (tA := tA) (G := G) (σ := σ) h0
  rw [hG] at he
  refine va_bast hx hb hK hP hD hS q0 1 he rfl hin hd fun H1 locs1 hP1 hD1 hS1 => ?_
  rw [px_arr_set hD h0 hG] at hP1 hD1
  exact h p e s m args below meth c H1 locs1 ls D tA ad ad0 ids0 A ⟨X.1, ⟨hP1, hD1, hS1, px_clo_up hcl (fun c' sl' q' e1 _ => by rw [hG] at e1; cases e1), hA⟩, X.2.2.1, X.2.2.2.1, px_t (px_t (px_t X.2.2.2.2.1)), X.2.2.2.2.2⟩
theorem pw_zast {i : pxI} {j x : Int32} {N : Nat} (hd : decode cc pc = .ok (.bastore, 1)) (hG : G i = .inl (2, N)) (hin : vp_in j N)
    (h : pw l R y cc nL ret (pc + 1) L st ids G (px_up σ i j.toNatClampNeg (vp_nar .boolean x)) k n Rt) : pw l R y cc nL ret pc L (.inl x :: .inl j :: .inr (some i) :: st) ids G σ k n Rt := by
  intro p e s m args below meth c H locs ls D tA ad ad0 ids0 A X
  obtain ⟨hx, hb, hr, hml, hnm, hts, hown, hlk, hE, hK⟩ := X.1
  obtain ⟨hP, hD, hS, hcl, hA⟩ := X.2.1
  obtain ⟨q0, h0⟩ := List.getElem?_of_mem (px_h (px_t (px_t X.2.2.2.2.1)) i rfl)
  have he := px_ws_get (ad := ad) (tA := tA) (G := G) (σ := σ) h0
  rw [hG] at he
  refine va_zast hx hb hK hP hD hS q0 2 he rfl hin hd fun H1 locs1 hP1 hD1 hS1 => ?_
  rw [px_arr_set hD h0 hG] at hP1 hD1
  exact h p e s m args below meth c H1 locs1 ls D tA ad ad0 ids0 A ⟨X.1, ⟨hP1, hD1, hS1, px_clo_up hcl (fun c' sl' q' e1 _ => by rw [hG] at e1; cases e1), hA⟩, X.2.2.1, X.2.2.2.1, px_t (px_t (px_t X.2.2.2.2.1)), X.2.2.2.2.2⟩
theorem px_end {p : Program} {e : Env} {s : State} {m : MethodId} {args : Array Value} {below : List Frame} {meth : Method} {c : Code} {H : Heap} {locs : List Loc} {ls : Array Slot} {D : va_G} {tA : Nat → ClassId} {ad ad0 : pxI → Nat} {ids0 : List pxI} {A : Nat → Prop} (X : px_X p l e R s m args below meth c H locs ls D tA ad ad0 ids0 A y cc nL ret L st ids G σ) {v : Option pxV} (hv : ∀ w, v = some w → px_vv ids w) (hR : Rt v ids G σ) {t : State} (ht : t.heap = H) :
    px_Qc D tA ad0 ids0 Rt A args s (.returned (v.map (px_mv ad))) t := by
  obtain ⟨hP, hD, hS, hcl, hA⟩ := X.2.1
  exact ⟨v, ids, G, σ, ad, hR, X.2.2.2.2.2.1, X.2.2.2.2.2.2, rfl, hv, hcl, by rw [ht]; exact hP, hD, hS.F ht⟩
theorem pw_iret {x : Int32} (hd : decode cc pc = .ok (.ireturn, 1)) (hr : ret = some .int) (hk : k ≤ R.cells) (hn : n ≤ R.slots) (h : Rt (some (.inl x)) ids G σ) : pw l R y cc nL ret pc L [.inl x] ids G σ k n Rt := by
  intro p e s m args below meth c H locs ls D tA ad ad0 ids0 A X
  refine W.widen hk hn ?_
  have hlocks := X.1.2.2.2.2.2.2.2.1
  exact W.iret (v := x) X.1.1 X.1.2.1 (X.1.2.2.1.trans hr) (fun t ht _ => px_end X (v := some (.inl x)) (fun w hw => by cases hw; exact px_vi) h ht) X.2.1.2.2.1.2.2 hd hlocks
theorem pw_zret {x : Int32} (hd : decode cc pc = .ok (.ireturn, 1)) (hr : ret = some .boolean) (hb : x = 0 ∨ x = 1) (hk : k ≤ R.cells) (hn : n ≤ R.slots) (h : Rt (some (.inl x)) ids G σ) : pw l R y cc nL ret pc L [.inl x] ids G σ k n Rt := by
  intro p e s m args below meth c H locs ls D tA ad ad0 ids0 A X
  refine W.widen hk hn ?_
  have hlocks := X.1.2.2.2.2.2.2.2.1
  exact W.zret (v := x) X.1.1 X.1.2.1 (X.1.2.2.1.trans hr) (px_bool hb).1 (fun t ht _ => px_end X (v := some (.inl x)) (fun w hw => by cases hw; exact px_vi) h ht) X.2.1.2.2.1.2.2 hd hlocks
theorem pw_vret (hd : decode cc pc = .ok (.return_, 1)) (hr : ret = none) (hk : k ≤ R.cells) (hn : n ≤ R.slots) (h : Rt none ids G σ) : pw l R y cc nL ret pc L [] ids G σ k n Rt := by
  intro p e s m args below meth c H locs ls D tA ad ad0 ids0 A X
  refine W.widen hk hn ?_
  have hlocks := X.1.2.2.2.2.2.2.2.1
  exact W.vret X.1.1 X.1.2.1 (X.1.2.2.1.trans hr) (fun t ht _ => px_end X (v := none) (fun w hw => by cases hw) h ht) X.2.1.2.2.1.2.2 hd hlocks
end PXM
