/-! both systems under the law: a call of one leaves the other, and the row for answers, as they are -/
theorem px_ce_cg {ad ad' : pxI → Nat} {tA : Nat → ClassId} {ids : List pxI} {G : pxG} {σ : pxS} (ha : ∀ i ∈ ids, ad' i = ad i) (hcl : px_clo ids G σ) {j : pxI} (hj : j ∈ ids) : px_ce ad' tA (G j) (σ j) = px_ce ad tA (G j) (σ j) := by
  have h1 := hcl j hj
  have hv : ∀ v : pxV, px_vv ids v → px_mv ad' v = px_mv ad v := fun v h => by
    rcases v with x | r | r
    · rfl
    · rfl
    · show Value.ref (ad' r) = Value.ref (ad r)
      rw [ha r (h r rfl)]
  cases hG : G j with
  | inl x => rfl
  | inr y =>
    cases y with
    | inl z =>
      obtain ⟨t, n, g⟩ := z
      rw [hG] at h1
      have : (fun q => if q < n then (g q).map ad' else none) = fun q => if q < n then (g q).map ad else none := by
        funext q
        by_cases hq : q < n
        · rw [if_pos hq, if_pos hq]
          cases hg : g q with
          | none => rfl
          | some r =>
            show some (ad' r) = some (ad r)
            rw [ha r (h1 q hq r (by rw [hg]))]
        · rw [if_neg hq, if_neg hq]
      show (Sum.inl (tA t, n, Sum.inr (Sum.inr (Sum.inr (Sum.inr (fun q => if q < n then (g q).map ad' else none))))) : va_E) = Sum.inl (tA t, n, Sum.inr (Sum.inr (Sum.inr (Sum.inr (fun q => if q < n then (g q).map ad else none)))))
      rw [this]
    | inr z =>
      obtain ⟨ci, sl⟩ := z
      rw [hG] at h1
      show (Sum.inr (ci, px_fs ad' sl (σ j)) : va_E) = Sum.inr (ci, px_fs ad sl (σ j))
      have : px_fs ad' sl (σ j) = px_fs ad sl (σ j) := by
        apply List.ext_getElem?
        intro k
        cases hk : sl[k]? with
        | none => simp [px_fs, hk]
        | some q => rw [px_fs_get hk, px_fs_get hk, hv _ (h1 k q hk)]
      rw [this]
theorem px_ws_cg {ad ad' : pxI → Nat} {tA : Nat → ClassId} {ids : List pxI} {G : pxG} {σ : pxS} (ha : ∀ i ∈ ids, ad' i = ad i) (hcl : px_clo ids G σ) : px_ws ad' tA ids G σ = px_ws ad tA ids G σ :=
  List.map_congr_left fun j hj => by rw [px_ce_cg ha hcl hj, ha j hj]
/-- the cells' addresses are those of the ids -/
theorem px_ws_m {ad : pxI → Nat} {tA : Nat → ClassId} {ids : List pxI} {G : pxG} {σ : pxS} {k : Nat} {q : Nat × va_E} (h : (px_ws ad tA ids G σ)[k]? = some q) : ∃ i ∈ ids, ids[k]? = some i ∧ q.1 = ad i := by
  unfold px_ws at h
  rw [List.getElem?_map] at h
  cases hi : ids[k]? with
  | none => rw [hi] at h; cases h
  | some i =>
    rw [hi] at h
    cases h
    exact ⟨i, List.mem_of_getElem? hi, rfl, rfl⟩
def px_dA (A : Nat → Prop) (ad : pxI → Nat) (ids : List pxI) : Prop := (∀ (k j : Nat) (x y : pxI), ids[k]? = some x → ids[j]? = some y → ad x = ad y → k = j) ∧ ∀ i ∈ ids, A (ad i)
theorem px_dA_D {A : Nat → Prop} {ad : pxI → Nat} {tA : Nat → ClassId} {ids : List pxI} {G : pxG} {σ : pxS} (h : px_dA A ad ids) : va_D A (px_ws ad tA ids G σ) := by
  refine ⟨fun i j x y hi hj e => ?_, fun k q hk => ?_⟩
  · obtain ⟨a, _, h1, e1⟩ := px_ws_m hi
    obtain ⟨b, _, h2, e2⟩ := px_ws_m hj
    exact h.1 i j a b h1 h2 (by rw [← e1, ← e2]; exact e)
  · obtain ⟨a, h0, _, e1⟩ := px_ws_m hk
    rw [e1]
    exact h.2 a h0
theorem px_D_dA {A : Nat → Prop} {ad : pxI → Nat} {tA : Nat → ClassId} {ids : List pxI} {G : pxG} {σ : pxS} (h : va_D A (px_ws ad tA ids G σ)) : px_dA A ad ids := by
  refine ⟨fun k j x y hk hj e => h.1 k j _ _ (px_ws_get hk) (px_ws_get hj) e, fun i hi => ?_⟩
  obtain ⟨k, hk⟩ := List.getElem?_of_mem hi
  exact h.2 k _ (px_ws_get hk)
section PXY
variable {p : Program} {l : Launch} {e : Env} {R : Room} {s : State} {m : MethodId} {args : Array Value} {below : List Frame} {meth : Method} {c : Code} {H : Heap} {locs : List Loc} {cells slots : Nat} {Q : State → Prop} {cc : ByteArray} {nL pc : Nat} {ls : Array Slot} {rest : List Value} {D : va_G} {tA : Nat → ClassId} {A : Nat → Prop} {ad : pxI → Nat} {ids : List pxI} {G : pxG} {σ σ' : pxS}
/-- a call of a system that lies beside others -/
theorem px_lcall {own : String} {idx ci N d' : Nat} {y' : MethodName} {cc' : ByteArray} {nL' : Nat} {ret' : Option FieldType} {sl : List pxK} {st0 : List Value} {r : Int32} {wr : va_W} (xs : List Int32)
    (hx : p.tables.exec = Jvm.exec) (hb : c.code = cc) (hml : c.maxLocals = nL) (hown : s.vm.findClass own = some m.cls) (hts : ∀ w ∈ pxW, w.before args s = true) (hK : va_K D classes (px_tys tA) s) (hE : px_E A s s.heap) (hA : ∀ q : Nat, s.heap.size ≤ q → A q)
    (hP : va_P D classes (px_ws ad tA ids G σ) H) (hdA : px_dA A ad ids) (hS : va_S A s.heap H locs) (hcl : px_clo ids G σ) (hz : (0, 0, 0) ∈ ids) (hwr : va_P D classes wr H) (hdj : ∀ (k : Nat) (q : Nat × va_E), wr[k]? = some q → ∀ i ∈ ids, q.1 ≠ ad i)
    (hd : decode cc pc = .ok (.invokevirtual idx, 3)) (hw : px_yV own idx ci y' cc' nL' ret' N) (hG : G (0, 0, 0) = .inr (.inr (ci, sl))) (hst : st0 = (xs.map Value.int).reverse ++ .ref (ad (0, 0, 0)) :: rest) (hN : xs.length = N) (h8 : (rest.map fun v => v.category).sum ≤ 8) (hls : ls.size = nL) (hR : d' + 1 ≤ R.frames ∧ 8 + (nL' + 11) + 40 * d' ≤ R.locals) (hk : cells ≤ R.cells ∧ slots ≤ R.slots)
    (hm : pm l y' cc' nL' ret' (px_R d') (.inr (some (0, 0, 0)) :: xs.map Sum.inl) ids G σ (px_r (some (.inl r)) ids G σ'))
    (kk : ∀ (H1 : Heap) (locs1 : List Loc), va_P D classes (px_ws ad tA ids G σ') H1 → va_P D classes wr H1 → va_S A s.heap H1 locs1 → px_clo ids G σ' → W p l e R s m args below meth c H1 locs1 cells slots Q (F0 m (pc + 3) ls (.int r :: rest))) :
    W p l e R s m args below meth c H locs cells slots Q (F0 m pc ls st0) := by
  subst hst
  have hD : va_D A (px_ws ad tA ids G σ) := px_dA_D hdA
  have hmap : (xs.map Sum.inl : List pxV).map (px_mv ad) = xs.map Value.int := by
    rw [List.map_map]
    rfl
  have hvs : ∀ v ∈ (.inr (some (0, 0, 0)) : pxV) :: xs.map Sum.inl, px_vv ids v := fun v hv => by
    rcases List.mem_cons.mp hv with rfl | hv
    · intro r hr
      cases hr
      exact hz
    · obtain ⟨x, _, rfl⟩ := List.mem_map.mp hv
      exact px_vi
  obtain ⟨q0, h0⟩ := List.getElem?_of_mem hz
  have he := px_ws_get (ad := ad) (tA := tA) (G := G) (σ := σ) h0
  rw [hG] at he
  obtain ⟨⟨⟨w1, w2, w3⟩, w4⟩, wi, wsel, hc⟩ := hw
  obtain ⟨qc, hc1, hc2⟩ := Option.map_eq_some_iff.mp hc
  have hT : GoodIn pxW (wsV own idx y'.cls y' (pxws y' cc' nL' ret')) := fun w hw => by
    rcases List.mem_append.mp hw with hw | hw
    · have hmem : w ∈ pxW := by
        simp only [List.mem_cons, List.not_mem_nil, or_false] at hw
        rcases hw with rfl | rfl | rfl | rfl
        · exact w1
        · exact wi
        · exact wsel
        · exact w2
      exact ⟨hmem, pxW_good hmem⟩
    · exact px_good w3 w hw
  have hrun := va_runV (l := l) (e := e) (R := R) (below := below) (meth := meth) (locs := locs) (cells := cells) (slots := slots) (As := xs.map Value.int) (rest := rest) (g := F0 m pc ls ((xs.map Value.int).reverse ++ .ref (ad (0, 0, 0)) :: rest)) (n := N) (C := y'.cls) (own := own) (index := idx) (Ts := pxW) (nL := nL) (b := ad (0, 0, 0)) ⟨hx, hb, hml, hown, hts⟩ (hm D tA ad H.size) (cwV N hts hT rfl rfl rfl ⟨rfl, w4⟩ hR) ⟨px_blind D tA ad ids G σ _ _, by
    have := va_recv hK hP hc1 he
    rw [hc2] at this
    exact this, fun U hU hW => ⟨by rw [List.map_cons, hmap]; rfl, by rw [hU], by rw [hU]; exact hP, va_K.moved hW.alike hK, hD.weaken (fun _ _ _ _ => trivial), hcl, hvs, hE.call hS (px_free hD hS hA) hW hU⟩⟩ rfl (by rw [List.length_map]; exact hN) hls rfl (lv_room h8) hd hk
  intro T hT2 XT
  obtain ⟨v, st₀, t, T', L', g0, X', hL, e1, e2, ⟨v', ids', G', σ2, ad', ⟨rfl, rfl, rfl, rfl⟩, hin, had, hv, hvv, hcl', hP', hD', hF⟩, stp⟩ := hrun T hT2 XT
  have hfree := px_free hD hS hA
  have hzz : H.size ≤ T'.heap.size := by rw [e1, ← g0]; exact hF.1
  have hkp : ∀ q : Nat, q < H.size → ¬ va_A (px_ws ad tA ids' G' σ) H.size q → T'.heap[q]? = H[q]? := fun q h1 h2 => by rw [e1, ← g0]; exact hF.2 q (by rw [g0]; exact h1) h2
  have hS' : va_S A s.heap T'.heap (locs ++ L') := ⟨Nat.le_trans hS.1 hzz, fun q h1 h2 => by
      rw [hkp q (Nat.lt_of_lt_of_le h1 hS.1) (fun z => h2 (hfree q z))]
      exact hS.2.1 q h1 h2, fun q hq => by
      rcases List.mem_append.mp hq with h | h
      · exact hS.2.2 q h
      · exact hfree _ (hL q h)⟩
  have hwr' : va_P D classes wr T'.heap := hwr.kept fun k q hq => hkp q.1 ((hwr k q hq).lt) (fun hv => by
    rcases hv with ⟨k2, e2, hv⟩ | hv
    · obtain ⟨i, hi, _, e3⟩ := px_ws_m hv
      exact hdj k q hq i hi e3
    · exact absurd ((hwr k q hq).lt) (Nat.not_lt.mpr hv))
  have hP2 : va_P D classes (px_ws ad tA ids' G' σ2) T'.heap := by
    rw [e1, ← px_ws_cg had hcl']
    exact hP'
  obtain ⟨t2, a1, b1⟩ := kk T'.heap (locs ++ L') hP2 hwr' hS' hcl' T' rfl X'
  cases hv
  exact ⟨t2, stp t2 a1, b1⟩
end PXY
