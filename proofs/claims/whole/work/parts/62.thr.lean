/-! a method that throws: what its throws stand on -/
def px_XE (A : Nat → Prop) (U : State) (H : Heap) : Prop := (va_Nw (.declares (Bundle.init0 "java/lang/RuntimeException")) U ∧ va_Nw (.declares (Bundle.init0 "java/lang/Exception")) U ∧ va_Nw (.declares (Bundle.init0 Bundle.tN)) U ∧ va_Nw (.castable "java/lang/IndexOutOfBoundsException" "java/lang/IndexOutOfBoundsException") U ∧ va_Nw (.castable "java/util/NoSuchElementException" "java/util/NoSuchElementException") U ∧ va_Nc "java/util/NoSuchElementException" "java/lang/IndexOutOfBoundsException" U) ∧
  vx_Zq Bundle.tN "UNASSIGNED_STACK" Bundle.steD A U H ∧ vx_Zq Bundle.tN "SUPPRESSED_SENTINEL" Bundle.listD A U H
def px_xw : List Cond := [.declares (Bundle.init0 "java/lang/RuntimeException"), .declares (Bundle.init0 "java/lang/Exception"), .declares (Bundle.init0 Bundle.tN), .castable "java/lang/IndexOutOfBoundsException" "java/lang/IndexOutOfBoundsException", .castable "java/util/NoSuchElementException" "java/util/NoSuchElementException"]
theorem px_XE.call {A B : Nat → Prop} {s U : State} {H : Heap} {locs : List Loc} (h : px_XE A s s.heap) (hS : va_S A s.heap H locs) (hBA : ∀ q, B q → A q) (hW : s.WarmedH U.vm) (hU : U.heap = H) : px_XE B U U.heap := by
  obtain ⟨⟨h1, h2, h3, h4, h5, h6⟩, h7, h8⟩ := h
  subst hU
  exact ⟨⟨va_Nw.warmD hW h1, va_Nw.warmD hW h2, va_Nw.warmD hW h3, va_Nw.warmC hW h4, va_Nw.warmC hW h5, va_Nc.moved hW.alike h6⟩, ((h7.kept hS.2.1).moved hW.alike).narrow hBA, ((h8.kept hS.2.1).moved hW.alike).narrow hBA⟩
theorem px_XE.calling {A : Nat → Prop} {U : State} {g : JFrame} {mk : MethodId} {a : Array Value} (h : px_XE A U U.heap) : px_XE A (U.calling g mk a) (U.calling g mk a).heap := by
  obtain ⟨⟨h1, h2, h3, h4, h5, h6⟩, h7, h8⟩ := h
  exact ⟨⟨va_Nw.same rfl (u := U) (U := U.calling g mk a) rfl h1, va_Nw.same rfl (u := U) (U := U.calling g mk a) rfl h2, va_Nw.same rfl (u := U) (U := U.calling g mk a) rfl h3, va_Nw.same rfl (u := U) (U := U.calling g mk a) rfl h4, va_Nw.same rfl (u := U) (U := U.calling g mk a) rfl h5, va_Nc.moved (u := U) (U := U.calling g mk a) (Vm.Alike.refl U.vm) h6⟩, h7.moved (u := U) (U := U.calling g mk a) (Vm.Alike.refl U.vm), h8.moved (u := U) (U := U.calling g mk a) (Vm.Alike.refl U.vm)⟩
theorem px_XE.w {A : Nat → Prop} {s : State} {H : Heap} {args : Array Value} (h : px_XE A s H) : ∀ w ∈ px_xw, w.before args s = true := by
  obtain ⟨⟨h1, h2, h3, h4, h5, h6⟩, h7, h8⟩ := h
  exact vx_c (va_Nw.use rfl h1) (vx_c (va_Nw.use rfl h2) (vx_c (va_Nw.use rfl h3) (vx_c (va_Nw.use rfl h4) (vx_c (va_Nw.use rfl h5) vx_n))))
theorem px_x1 : ∀ w ∈ (vx_at0 R_PR 136 "java/lang/IndexOutOfBoundsException" ["java/lang/RuntimeException", "java/lang/Exception"]).filter goodWord, w ∈ lw_tbl := by decide +kernel
theorem px_x2 : ∀ w ∈ (vx_at0 R_PR 176 "java/util/NoSuchElementException" ["java/lang/RuntimeException", "java/lang/Exception"]).filter goodWord, w ∈ lw_tbl := by decide +kernel
theorem px_x3 : ∀ w ∈ (vx_at0 R_PR 136 "java/lang/IndexOutOfBoundsException" ["java/lang/RuntimeException", "java/lang/Exception"]).filter (fun w => !goodWord w), w ∈ px_xw := by decide +kernel
theorem px_x4 : ∀ w ∈ (vx_at0 R_PR 176 "java/util/NoSuchElementException" ["java/lang/RuntimeException", "java/lang/Exception"]).filter (fun w => !goodWord w), w ∈ px_xw := by decide +kernel
theorem px_x5 : ∀ w ∈ Cond.classLink R_PR 134 "java/lang/IndexOutOfBoundsException" :: Cond.initialized "java/lang/IndexOutOfBoundsException" :: vx_at0 R_PR 136 "java/lang/IndexOutOfBoundsException" ["java/lang/RuntimeException", "java/lang/Exception"], vx_ot w = true := by decide +kernel
theorem px_x6 : ∀ w ∈ Cond.classLink R_PR 174 "java/util/NoSuchElementException" :: Cond.initialized "java/util/NoSuchElementException" :: vx_at0 R_PR 176 "java/util/NoSuchElementException" ["java/lang/RuntimeException", "java/lang/Exception"], vx_ot w = true := by decide +kernel
theorem px_xf {L : List Cond} (h : ∀ w ∈ L.filter goodWord, w ∈ lw_tbl) : ∀ w ∈ L.filter goodWord, w ∈ pxW := fun w hw => List.mem_filter.mpr ⟨h w hw, (List.mem_filter.mp hw).2⟩
/-- a field read, whatever is to come -/
theorem wx_getf {p : Program} {l : Launch} {e : Env} {R : Room} {s : State} {m : MethodId} {args : Array Value} {below : List Frame} {meth : Method} {c : Code} {H : Heap} {locs : List Loc} {cells slots : Nat} {Q : State → Prop} {cc : ByteArray} {pc : Nat} {ls : Array Slot} {rest : List Value} {D : va_G} {tA : Nat → ClassId} {ad : pxI → Nat} {ids : List pxI} {G : pxG} {σ : pxS} {own : String} {idx ci kf : Nat} {q : pxK} {sl : List pxK} {i : pxI} {v : pxV}
    (hx : p.tables.exec = Jvm.exec) (hb : c.code = cc) (hts : ∀ w ∈ pxW, w.before args s = true) (hown : s.vm.findClass own = some m.cls) (hK : va_K D classes (px_tys tA) s) (hP : va_P D classes (px_ws ad tA ids G σ) H) (hcl : px_clo ids G σ) (hi : i ∈ ids)
    (hd : decode cc pc = .ok (.getfield idx, 3)) (hf : px_F own idx ci kf) (hG : G i = .inr (.inr (ci, sl))) (hq : sl[kf]? = some q) (hv : px_sv q (σ i kf) = v)
    (h : px_vv ids v → W p l e R s m args below meth c H locs cells slots Q (F0 m (pc + 3) ls (px_mv ad v :: rest))) : W p l e R s m args below meth c H locs cells slots Q (F0 m pc ls (.ref (ad i) :: rest)) := by
  obtain ⟨qc, hc, hk, hw⟩ := hf
  obtain ⟨q0, h0⟩ := List.getElem?_of_mem hi
  have he := px_ws_get (ad := ad) (tA := tA) (G := G) (σ := σ) h0
  rw [hG] at he
  have hvv : px_vv ids v := by
    have h1 := hcl i hi
    rw [hG] at h1
    rw [← hv]
    exact h1 kf q hq
  exact va_get hx hb hts (px_cls hc).1 hown hK hP q0 he hc kf hk (hts _ hw) (fun _ h9 => h9) (by rw [px_fs_get hq, hv]) hd (h hvv)
def px_Px (D : va_G) (tA : Nat → ClassId) (ad : pxI → Nat) (ids : List pxI) (σ : pxS) (v1 v2 : Int32) (sz : Nat) : Array Value → State → Prop := fun a U => px_Pc D tA ad ids cG σ [.inr (some (0, 0, 0)), .inl v1, .inl v2] sz a U ∧ px_XE (va_A (px_ws ad tA ids cG σ) sz) U U.heap
def px_rX (D : va_G) (tA : Nat → ClassId) (ad : pxI → Nat) (ids : List pxI) (σ : pxS) (v1 v2 : Int32) (sz : Nat) : String → State → State → Prop := fun E st t =>
  ((E = "java/lang/IndexOutOfBoundsException" ∧ F_PR_isRail σ v1 = some 0) ∨ (E = "java/util/NoSuchElementException" ∧ F_PR_isRail σ v1 = some 1 ∧ dWh v2 = false)) ∧ va_P D classes (px_ws ad tA ids cG σ) t.heap ∧ va_F (va_A (px_ws ad tA ids cG σ) sz) st t
def px_rR (ids : List pxI) (σ : pxS) (v1 v2 : Int32) : Option pxV → List pxI → pxG → pxS → Prop := fun v ids' G' σ' => ∃ r, F_PR_isRail σ v1 = some 1 ∧ F_PR_rail σ v1 v2 = some r ∧ px_r (some (.inl r)) ids cG σ v ids' G' σ'
theorem px_Px_blind (D : va_G) (tA : Nat → ClassId) (ad : pxI → Nat) (ids : List pxI) (σ : pxS) (v1 v2 : Int32) (sz : Nat) : FrameBlind (px_Px D tA ad ids σ v1 v2 sz) := fun a U g mk h => ⟨px_blind D tA ad ids cG σ _ sz a U g mk h.1, h.2.calling⟩
theorem wx_aald {p : Program} {l : Launch} {e : Env} {R : Room} {s : State} {m : MethodId} {args : Array Value} {below : List Frame} {meth : Method} {c : Code} {H : Heap} {locs : List Loc} {cells slots : Nat} {Q : State → Prop} {cc : ByteArray} {pc : Nat} {ls : Array Slot} {rest : List Value} {D : va_G} {tA : Nat → ClassId} {ad : pxI → Nat} {ids : List pxI} {G : pxG} {σ : pxS} {i : pxI} {j : Int32} {t N : Nat} {g : Nat → Option pxI} {r : pxI} {C : String}
    (hx : p.tables.exec = Jvm.exec) (hb : c.code = cc) (hK : va_K D classes (px_tys tA) s) (hP : va_P D classes (px_ws ad tA ids G σ) H) (hi : i ∈ ids) (hd : decode cc pc = .ok (.aaload, 1)) (hG : G i = .inr (.inl (t, N, g))) (ht : (px_tys tA)[t]? = some (tA t, .object C)) (hin : vp_in j N) (hg : g j.toNatClampNeg = some r)
    (h : W p l e R s m args below meth c H locs cells slots Q (F0 m (pc + 1) ls (.ref (ad r) :: rest))) : W p l e R s m args below meth c H locs cells slots Q (F0 m pc ls (.int j :: .ref (ad i) :: rest)) := by
  obtain ⟨q0, h0⟩ := List.getElem?_of_mem hi
  have he := px_ws_get (ad := ad) (tA := tA) (G := G) (σ := σ) h0
  rw [hG] at he
  have hlt : j.toNatClampNeg < N := Nat.not_le.mp fun q => hin (Or.inr q)
  refine va_aldq hx hb hK hP q0 t he ht hin hd ?_
  show W p l e R s m args below meth c H locs cells slots Q (F0 m (pc + 1) ls (va_rf (if j.toNatClampNeg < N then (g j.toNatClampNeg).map ad else none) :: rest))
  rw [if_pos hlt, hg]
  exact h
