/-! a call of rail, beside others -/
section PXR
variable {p : Program} {l : Launch} {e : Env} {R : Room} {s : State} {m : MethodId} {args : Array Value} {below : List Frame} {meth : Method} {c : Code} {H : Heap} {locs : List Loc} {cells slots : Nat} {Q : State → Prop} {cc : ByteArray} {nL pc : Nat} {ls : Array Slot} {rest : List Value} {D : va_G} {tA : Nat → ClassId} {A : Nat → Prop} {ad : pxI → Nat} {ids : List pxI} {σ : pxS}
theorem px_rcall {own : String} {idx : Nat} {v1 v2 : Int32} {wr : va_W} (hl : l.stackTraces = false) (hc : F_PR_isRail σ v1 = some 0 ∨ (F_PR_isRail σ v1 = some 1 ∧ ((dWh v2 = true ∧ ∃ r, F_PR_rail σ v1 v2 = some r) ∨ dWh v2 = false))) (hin : F_PR_isRail σ v1 = some 1 → vp_in v1 12)
    (hx : p.tables.exec = Jvm.exec) (hb : c.code = cc) (hml : c.maxLocals = nL) (hown : s.vm.findClass own = some m.cls) (hts : ∀ w ∈ pxW, w.before args s = true) (hK : va_K D classes (px_tys tA) s) (hE : px_E A s s.heap) (hXE : px_XE A s s.heap) (hA : ∀ q : Nat, s.heap.size ≤ q → A q)
    (hP : va_P D classes (px_ws ad tA ids cG σ) H) (hdA : px_dA A ad ids) (hS : va_S A s.heap H locs) (hcl : px_clo ids cG σ) (hz : (0, 0, 0) ∈ ids) (hwr : va_P D classes wr H) (hdj : ∀ (k : Nat) (q : Nat × va_E), wr[k]? = some q → ∀ i ∈ ids, q.1 ≠ ad i)
    (hd : decode cc pc = .ok (.invokevirtual idx, 3)) (hw : px_yV own idx 0 y_PR_rail c_PR_rail 4 (some .int) 2) (h8 : (rest.map fun v => v.category).sum ≤ 8) (hls : ls.size = nL) (hR : 6 + 1 ≤ R.frames ∧ 8 + (4 + 11) + 240 ≤ R.locals) (hk : cells + 1 ≤ R.cells ∧ slots + 6 ≤ R.slots)
    (kk : ∀ (r : Int32) (H1 : Heap) (locs1 : List Loc), F_PR_isRail σ v1 = some 1 → F_PR_rail σ v1 v2 = some r → va_P D classes (px_ws ad tA ids cG σ) H1 → va_P D classes wr H1 → va_S A s.heap H1 locs1 → W p l e R s m args below meth c H1 locs1 (cells + 1) (slots + 6) Q (F0 m (pc + 3) ls (.int r :: rest)))
    (kx : ∀ (E : String) (ce : Cell) (q9 : Addr) (H1 : Heap) (locs1 : List Loc), ((E = "java/lang/IndexOutOfBoundsException" ∧ F_PR_isRail σ v1 = some 0) ∨ (E = "java/util/NoSuchElementException" ∧ F_PR_isRail σ v1 = some 1 ∧ dWh v2 = false)) → va_P D classes (px_ws ad tA ids cG σ) H1 → va_P D classes wr H1 → va_S A s.heap H1 locs1 → H1[q9]? = some ce → ce.vm = .none → s.vm.findClass E = some ce.cls → vx_W p l e R s m args below meth c H1 locs1 (cells + 1) (slots + 6) Q (F0 m pc ls rest) q9) :
    W p l e R s m args below meth c H locs cells slots Q (F0 m pc ls (.int v2 :: .int v1 :: .ref (ad (0, 0, 0)) :: rest)) := by
  have hD : va_D A (px_ws ad tA ids cG σ) := px_dA_D hdA
  have hvs : ∀ v ∈ ([.inr (some (0, 0, 0)), .inl v1, .inl v2] : List pxV), px_vv ids v := fun v hv => by
    simp only [List.mem_cons, List.not_mem_nil, or_false] at hv
    rcases hv with rfl | rfl | rfl
    · intro r hr
      cases hr
      exact hz
    · exact px_vi
    · exact px_vi
  obtain ⟨q0, h0⟩ := List.getElem?_of_mem hz
  have he := px_ws_get (ad := ad) (tA := tA) (G := cG) (σ := σ) h0
  obtain ⟨⟨⟨w1, w2, w3⟩, w4⟩, wi, wsel, hcq⟩ := hw
  obtain ⟨qc, hc1, hc2⟩ := Option.map_eq_some_iff.mp hcq
  have hT : GoodIn pxW (wsV own idx y_PR_rail.cls y_PR_rail (pxws y_PR_rail c_PR_rail 4 (some .int))) := fun w hw => by
    rcases List.mem_append.mp hw with hw | hw
    · have hmem : w ∈ pxW := by
        simp only [List.mem_cons, List.not_mem_nil, or_false] at hw
        rcases hw with rfl | rfl | rfl | rfl
        · exact w1
        · exact wi
        · exact wsel
        · exact w2
      exact ⟨hmem, pxW_good hmem⟩
    · exact px_good w3 w hw
  have hfree := px_free hD hS hA
  have hrun := vx_runV (l := l) (e := e) (R := R) (below := below) (meth := meth) (locs := locs) (cells := cells) (slots := slots) (As := [.int v1, .int v2]) (rest := rest) (g := F0 m pc ls (.int v2 :: .int v1 :: .ref (ad (0, 0, 0)) :: rest)) (n := 2) (C := y_PR_rail.cls) (own := own) (index := idx) (Ts := pxW) (nL := nL) (b := ad (0, 0, 0)) ⟨hx, hb, hml, hown, hts⟩ (cx_PR_rail hl hc hin D tA ad H.size) (cwV 2 hts hT rfl rfl rfl ⟨rfl, w4⟩ hR) ⟨px_Px_blind D tA ad ids σ _ _ _, by
    have := va_recv hK hP hc1 he
    rw [hc2] at this
    exact this, fun U hU hW => ⟨⟨rfl, by rw [hU], by rw [hU]; exact hP, va_K.moved hW.alike hK, hD.weaken (fun _ _ _ _ => trivial), hcl, hvs, hE.call hS hfree hW hU⟩, hXE.call hS hfree hW hU⟩⟩ rfl rfl hls rfl (lv_room h8) hd hk
  intro T hT2 XT
  -- what stays
  have stay : ∀ (st₀ t T' : State) (L : List Loc), st₀.heap = H → T'.heap = t.heap → (∀ q ∈ L, va_A (px_ws ad tA ids cG σ) H.size q.base) → va_F (va_A (px_ws ad tA ids cG σ) H.size) st₀ t → va_S A s.heap T'.heap (locs ++ L) ∧ va_P D classes wr T'.heap := fun st₀ t T' L g0 e1 hL hF => by
    have hzz : H.size ≤ T'.heap.size := by rw [e1, ← g0]; exact hF.1
    have hkp : ∀ q : Nat, q < H.size → ¬ va_A (px_ws ad tA ids cG σ) H.size q → T'.heap[q]? = H[q]? := fun q h1 h2 => by rw [e1, ← g0]; exact hF.2 q (by rw [g0]; exact h1) h2
    refine ⟨⟨Nat.le_trans hS.1 hzz, fun q h1 h2 => by
      rw [hkp q (Nat.lt_of_lt_of_le h1 hS.1) (fun z => h2 (hfree q z))]
      exact hS.2.1 q h1 h2, fun q hq => by
      rcases List.mem_append.mp hq with h | h
      · exact hS.2.2 q h
      · exact hfree _ (hL q h)⟩, ?_⟩
    exact hwr.kept fun k q hq => hkp q.1 ((hwr k q hq).lt) (fun hv => by
      rcases hv with ⟨k2, e2, hv⟩ | hv
      · obtain ⟨i, hi, _, e3⟩ := px_ws_m hv
        exact hdj k q hq i hi e3
      · exact absurd ((hwr k q hq).lt) (Nat.not_lt.mpr hv))
  rcases hrun T hT2 XT with ⟨v, st₀, t, T', L, g0, X', hL, e1, e2, ⟨v', ids', G', σ2, ad', ⟨r, hr1, hr2, rfl, rfl, rfl, rfl⟩, hin', had, hv, hvv, hcl', hP', hD', hF⟩, stp⟩ | ⟨q9, st₀, t, T', L, E, ce, g0, X', hL, e1, e2, ⟨hE9, hP', hF⟩, hce, hcv, hcls, stp⟩
  · obtain ⟨s1, s2⟩ := stay st₀ t T' L g0 e1 hL hF
    have hP2 : va_P D classes (px_ws ad tA ids' cG σ2) T'.heap := by
      rw [e1, ← px_ws_cg had hcl']
      exact hP'
    obtain ⟨t2, a1, b1⟩ := kk r T'.heap (locs ++ L) hr1 hr2 hP2 s2 s1 T' rfl X'
    cases hv
    exact ⟨t2, stp t2 a1, b1⟩
  · obtain ⟨s1, s2⟩ := stay st₀ t T' L g0 e1 hL hF
    obtain ⟨t2, a1, b1⟩ := kx E ce q9 T'.heap (locs ++ L) hE9 (by rw [e1]; exact hP') s2 s1 (by rw [e1]; exact hce) hcv hcls T' rfl X'
    exact ⟨t2, stp.trans a1, b1⟩
end PXR
