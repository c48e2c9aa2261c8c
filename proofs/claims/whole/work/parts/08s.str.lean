/-! the texts in a walk: their lengths and letters -/
abbrev y_St_length : MethodName := ys_len
abbrev y_St_charAt : MethodName := ys_cha
def px_str (own : String) (idx i : Nat) : Prop := (own = "PowerRailsModel" ∧ idx = 138 ∧ i = 0) ∨ (own = "PowerRails$Reader" ∧ idx = 198 ∧ i = 1)
theorem px_str_i {own : String} {idx i : Nat} (h : px_str own idx i) : i < 2 := by
  rcases h with ⟨_, _, rfl⟩ | ⟨_, _, rfl⟩ <;> decide
theorem px_E.text {A : Nat → Prop} {s : State} {own : String} {idx i : Nat} (h : px_E A s s.heap) (hs : px_str own idx i) : ∃ (aK aV : Nat) (tx : String), vk_R own idx tx aK s ∧ ∀ (U : State) (H : Heap) (locs : List Loc), va_S A s.heap H locs → s.WarmedH U.vm → U.heap = H → px_T i aK aV U U.heap := by
  obtain ⟨adK, adV, h1, h2, h3, h4, h5, h6⟩ := h
  refine ⟨adK i, adV i, ?_⟩
  have hi := px_str_i hs
  have hT : ∀ (U : State) (H : Heap) (locs : List Loc), va_S A s.heap H locs → s.WarmedH U.vm → U.heap = H → px_T i (adK i) (adV i) U U.heap := fun U H locs hS hW hU => by
    subst hU
    have n : ∀ q, px_T0 q → A q := fun _ h => h.elim
    obtain ⟨g1, g2, g3, g4⟩ := h1.1 i hi
    exact ⟨((g1.kept hS.2.1).moved hW.alike).narrow n, ((g2.kept hS.2.1).moved hW.alike).narrow n, ((g3.kept hS.2.1).moved hW.alike).narrow n, ((g4.kept hS.2.1).moved hW.alike).narrow n, ((h4.kept hS.2.1).moved hW.alike).narrow n, ((h5.kept hS.2.1).moved hW.alike).narrow n⟩
  rcases hs with ⟨rfl, rfl, rfl⟩ | ⟨rfl, rfl, rfl⟩
  · exact ⟨_, h2, hT⟩
  · exact ⟨_, h3, hT⟩
section PXT
variable {l : Launch} {d : Nat} {y : MethodName} {cc : ByteArray} {nL : Nat} {ret : Option FieldType} {pc : Nat} {L : List (Nat × pxV)} {st : List pxV} {ids : List pxI} {G : pxG} {σ : pxS} {Rt : Option pxV → List pxI → pxG → pxS → Prop} {i idx iv : Nat}
theorem pw_slen {v : Int32} (hd1 : decode cc pc = .ok (.ldc idx, 2)) (hd2 : decode cc (pc + 2) = .ok (.invokevirtual iv, 3)) (hs : px_str y.cls idx i) (hw : Cond.methodLink y.cls iv y_St_length ∈ pxW) (hv : Int32.ofNat (px_len.getD i 0) = v) (hd : 6 ≤ d) (h8 : st.length ≤ 6)
    (h : pw l (px_R d) y cc nL ret (pc + 2 + 3) L (.inl v :: st) ids G σ 0 0 Rt) : pw l (px_R d) y cc nL ret pc L st ids G σ 0 0 Rt := by
  intro p e s m args below meth c H locs ls D tA ad ad0 ids0 A X
  obtain ⟨hx, hb, hr, hml, hnm, hts, hown, hlk, hE, hK⟩ := X.1
  obtain ⟨hP, hD, hS, hcl, hA⟩ := X.2.1
  obtain ⟨aK, aV, tx, hR, hT⟩ := hE.text hs
  have hi := px_str_i hs
  subst hv
  refine va_ldcS hx hb hown hR hd1 ?_
  have hO : ∃ cell : Cell, H[aK]? = some cell ∧ cell.vm.isStatics = false ∧ s.vm.findClass "java/lang/String" = some cell.cls := by
    obtain ⟨adK, adV, h1, -⟩ := hE
    obtain ⟨cell, g1, g2, g3, -⟩ := (hT (({ s with heap := H } : State)) H locs hS (State.WarmedH.refl s) rfl).1
    exact ⟨cell, g1, g2, g3⟩
  refine px_callT (fun _ h => h) (va_runV (As := []) (n := 0) (rest := st.map (px_mv ad)) (C := "java/lang/String") (Ts := pxW) ⟨hx, hb, hml, hown, hts⟩ (ks_len l i aK aV hi) ⟨callB_of 0 hts (px_good ws_len) rfl rfl rfl (hts _ wn_St) (hts _ hw) ⟨by decide +kernel, by decide +kernel, by decide +kernel⟩ ⟨by show 2 + 1 ≤ d; omega, by show 8 + (1 + 11) + 40 * 2 ≤ 40 * d; omega⟩, hts _ wv_len.1, hts _ wv_len.2⟩ ⟨px_TP_b _ _ _ _, hO, fun U hU hW => ⟨rfl, hT U H locs hS hW hU⟩⟩ rfl rfl X.2.2.1.1 rfl (lv_room (by rw [px_cat_sum]; omega)) hd2 ⟨Nat.le_refl 0, Nat.le_refl 0⟩) ?_
  exact h p e s m args below meth c H locs ls D tA ad ad0 ids0 A (X.stk (px_c px_vi X.2.2.2.2.1))
theorem px_sch {x : Int32} {p : Program} {e : Env} {s : State} {m : MethodId} {args : Array Value} {below : List Frame} {meth : Method} {c : Code} {H : Heap} {locs : List Loc} {ls : Array Slot} {D : va_G} {tA : Nat → ClassId} {ad ad0 : pxI → Nat} {ids0 : List pxI} {A : Nat → Prop} {pc2 aK aV : Nat} {Q : State → Prop}
    (X : px_X p l e (px_R d) s m args below meth c H locs ls D tA ad ad0 ids0 A y cc nL ret L st ids G σ) (hT : ∀ (U : State) (H : Heap) (locs : List Loc), va_S A s.heap H locs → s.WarmedH U.vm → U.heap = H → px_T i aK aV U U.heap) (hi : i < 2) (hd2 : decode cc pc2 = .ok (.invokevirtual iv, 3)) (hw : Cond.methodLink y.cls iv y_St_charAt ∈ pxW) (hin : vp_in x (px_len.getD i 0)) (hd : 6 ≤ d) (h8 : st.length ≤ 6)
    (h : W p l e (px_R d) s m args below meth c H locs 0 0 Q (F0 m (pc2 + 3) ls (.int (px_chr i x.toNatClampNeg) :: st.map (px_mv ad)))) : W p l e (px_R d) s m args below meth c H locs 0 0 Q (F0 m pc2 ls (.int x :: .ref aK :: st.map (px_mv ad))) := by
  obtain ⟨hx, hb, hr, hml, hnm, hts, hown, hlk, hE, hK⟩ := X.1
  obtain ⟨hP, hD, hS, hcl, hA⟩ := X.2.1
  have hO : ∃ cell : Cell, H[aK]? = some cell ∧ cell.vm.isStatics = false ∧ s.vm.findClass "java/lang/String" = some cell.cls := by
    obtain ⟨cell, g1, g2, g3, -⟩ := (hT (({ s with heap := H } : State)) H locs hS (State.WarmedH.refl s) rfl).1
    exact ⟨cell, g1, g2, g3⟩
  refine px_callT (fun _ h => h) (va_runV (As := [.int x]) (n := 1) (rest := st.map (px_mv ad)) (C := "java/lang/String") (Ts := pxW) ⟨hx, hb, hml, hown, hts⟩ (ks_cha l i aK aV hi hin) ⟨callB_of 1 hts (px_good ws_cha) rfl rfl rfl (hts _ wn_St) (hts _ hw) ⟨by decide +kernel, by decide +kernel, by decide +kernel⟩ ⟨by show 4 + 1 ≤ d; omega, by show 8 + (2 + 11) + 40 * 4 ≤ 40 * d; omega⟩, hts _ wv_cha.1, hts _ wv_cha.2⟩ ⟨px_TP_b _ _ _ _, hO, fun U hU hW => ⟨rfl, hT U H locs hS hW hU⟩⟩ rfl rfl X.2.2.1.1 rfl (lv_room (by rw [px_cat_sum]; omega)) hd2 ⟨Nat.le_refl 0, Nat.le_refl 0⟩) ?_
  exact h
theorem pw_sch1 {a : Fin 4} {ai : Nat} {x : Int32} (qa : Nat) (hd1 : decode cc pc = .ok (.ldc idx, 2)) (hd2 : decode cc (pc + 2) = .ok (.iload_n a, 1)) (hd3 : decode cc (pc + 2 + 1) = .ok (.invokevirtual iv, 3)) (ha : (a : Nat) = ai) (hqa : L[qa]? = some (ai, .inl x)) (hs : px_str y.cls idx i) (hw : Cond.methodLink y.cls iv y_St_charAt ∈ pxW) (hin : vp_in x (px_len.getD i 0)) (hd : 6 ≤ d) (h8 : st.length ≤ 6)
    (h : pw l (px_R d) y cc nL ret (pc + 2 + 1 + 3) L (.inl (px_chr i x.toNatClampNeg) :: st) ids G σ 0 0 Rt) : pw l (px_R d) y cc nL ret pc L st ids G σ 0 0 Rt := by
  intro p e s m args below meth c H locs ls D tA ad ad0 ids0 A X
  obtain ⟨hx, hb, hr, hml, hnm, hts, hown, hlk, hE, hK⟩ := X.1
  obtain ⟨aK, aV, tx, hR, hT⟩ := hE.text hs
  refine va_ldcS hx hb hown hR hd1 ?_
  refine lv_iload_n hx hb hd2 ha (X.2.2.1.2.2 (ai, .int x) (List.mem_map.mpr ⟨_, List.mem_of_getElem? hqa, rfl⟩)) ?_
  exact px_sch X hT (px_str_i hs) hd3 hw hin hd h8 (h p e s m args below meth c H locs ls D tA ad ad0 ids0 A (X.stk (px_c px_vi X.2.2.2.2.1)))
theorem pw_sch2 {a b : Fin 4} {ai bi : Nat} {x z : Int32} (qa qb : Nat) (hd1 : decode cc pc = .ok (.ldc idx, 2)) (hd2 : decode cc (pc + 2) = .ok (.iload_n a, 1)) (hd3 : decode cc (pc + 2 + 1) = .ok (.iload_n b, 1)) (hd4 : decode cc (pc + 2 + 1 + 1) = .ok (.iadd, 1)) (hd5 : decode cc (pc + 2 + 1 + 1 + 1) = .ok (.invokevirtual iv, 3)) (ha : (a : Nat) = ai) (hqa : L[qa]? = some (ai, .inl x)) (hb : (b : Nat) = bi) (hqb : L[qb]? = some (bi, .inl z)) (hs : px_str y.cls idx i) (hw : Cond.methodLink y.cls iv y_St_charAt ∈ pxW) (hin : vp_in (x + z) (px_len.getD i 0)) (hd : 6 ≤ d) (h8 : st.length ≤ 6)
    (h : pw l (px_R d) y cc nL ret (pc + 2 + 1 + 1 + 1 + 3) L (.inl (px_chr i (x + z).toNatClampNeg) :: st) ids G σ 0 0 Rt) : pw l (px_R d) y cc nL ret pc L st ids G σ 0 0 Rt := by
  intro p e s m args below meth c H locs ls D tA ad ad0 ids0 A X
  obtain ⟨hx, hb9, hr, hml, hnm, hts, hown, hlk, hE, hK⟩ := X.1
  obtain ⟨aK, aV, tx, hR, hT⟩ := hE.text hs
  refine va_ldcS hx hb9 hown hR hd1 ?_
  refine lv_iload_n hx hb9 hd2 ha (X.2.2.1.2.2 (ai, .int x) (List.mem_map.mpr ⟨_, List.mem_of_getElem? hqa, rfl⟩)) ?_
  refine lv_iload_n hx hb9 hd3 hb (X.2.2.1.2.2 (bi, .int z) (List.mem_map.mpr ⟨_, List.mem_of_getElem? hqb, rfl⟩)) ?_
  refine lv_iadd hx hb9 hd4 ?_
  exact px_sch X hT (px_str_i hs) hd5 hw hin hd h8 (h p e s m args below meth c H locs ls D tA ad ad0 ids0 A (X.stk (px_c px_vi X.2.2.2.2.1)))
end PXT
