/-! PowerRailsLaw.rail: its row, and its contract -/
def lr_y : MethodName := ⟨"PowerRailsLaw", "rail", "(LPowerRails;II[J)I"⟩
def lr_hh : List (Nat × Nat × Nat × Nat) := [(0, 10, 13, 13), (0, 10, 17, 15)]
def lr_tb : List (Nat × Instr × Nat) := [(0, .aload_n 3, 1), (1, .iconst 0, 1), (2, .aload_n 0, 1), (3, .iload_n 1, 1), (4, .iload_n 2, 1), (5, .invokevirtual 7, 3), (8, .i2l, 1), (9, .lastore, 1), (10, .goto 11, 3), (13, .astore 4, 2), (15, .iconst 1, 1), (16, .ireturn, 1), (17, .astore 4, 2), (19, .iconst 2, 1), (20, .ireturn, 1), (21, .iconst 0, 1), (22, .ireturn, 1)]
theorem lr_td : ∀ q ∈ lr_tb, decode method_3_code q.1 = .ok q.2 := by decide +kernel
theorem lr_lV : px_yV "PowerRailsLaw" 7 0 y_PR_rail c_PR_rail 4 (some .int) 2 := ⟨⟨⟨(px_w 1037 (by decide +kernel) (by decide +kernel)), (px_w 100 (by decide +kernel) (by decide +kernel)), (px_w 1040 (by decide +kernel) (by decide +kernel))⟩, by decide +kernel, by decide +kernel, by decide +kernel⟩, (px_w 1038 (by decide +kernel) (by decide +kernel)), (px_w 1039 (by decide +kernel) (by decide +kernel)), rfl⟩
def lr_ws : List Cond := Cond.codeWith lr_y method_3_code 5 (some .int) lr_hh :: pxW
def lr_o (q0 : Nat) (cL : ClassId) (g : Nat → Int64) : va_W := [(q0, .inl (cL, 1, .inr (.inl g)))]
def lr_Pc (D : va_G) (tA : Nat → ClassId) (A : Nat → Prop) (ad : pxI → Nat) (ids : List pxI) (σ : pxS) (v1 v2 : Int32) (q0 : Nat) (cL : ClassId) (g : Nat → Int64) (sz : Nat) : Array Value → State → Prop := fun a U =>
  a = ([.ref (ad (0, 0, 0)), .int v1, .int v2, .ref q0] : List Value).toArray ∧ U.heap.size = sz ∧ va_P D classes (px_ws ad tA ids cG σ) U.heap ∧ va_P D classes (lr_o q0 cL g) U.heap ∧ va_K D classes (px_tys tA ++ [(cL, .long)]) U ∧ px_E A U U.heap ∧ px_XE A U U.heap
def lr_Qc (D : va_G) (tA : Nat → ClassId) (A : Nat → Prop) (ad : pxI → Nat) (ids : List pxI) (σ : pxS) (v1 v2 : Int32) (q0 : Nat) (cL : ClassId) : Array Value → State → Outcome → State → Prop := fun _ st o t =>
  ∃ (k : Int32) (g' : Nat → Int64), o = .returned (some (.int k)) ∧ ((k = 0 ∧ F_PR_isRail σ v1 = some 1 ∧ ∃ r, F_PR_rail σ v1 v2 = some r ∧ g' 0 = r.toInt64) ∨ (k = 1 ∧ F_PR_isRail σ v1 = some 0) ∨ (k = 2 ∧ F_PR_isRail σ v1 = some 1 ∧ dWh v2 = false)) ∧ va_P D classes (px_ws ad tA ids cG σ) t.heap ∧ va_P D classes (lr_o q0 cL g') t.heap ∧ va_F A st t
theorem lr_blind (D : va_G) (tA : Nat → ClassId) (A : Nat → Prop) (ad : pxI → Nat) (ids : List pxI) (σ : pxS) (v1 v2 : Int32) (q0 : Nat) (cL : ClassId) (g : Nat → Int64) (sz : Nat) : FrameBlind (lr_Pc D tA A ad ids σ v1 v2 q0 cL g sz) := fun a U f mk h => by
  obtain ⟨h1, h2, h3, h4, h5, h6, h7⟩ := h
  exact ⟨h1, h2, h3, h4, va_K.moved (u := U) (U := U.calling f mk a) (Vm.Alike.refl U.vm) h5, h6.calling, h7.calling⟩
/-- a contract of a body with handlers -/
theorem lr_MetH {l : Launch} {y : MethodName} {ws ws' : List Cond} {rm : Room} {Pc : Array Value → State → Prop} {Qc : Array Value → State → Outcome → State → Prop} {mc ms : Nat} {free : Addr → Prop} {cc : ByteArray} {maxL : Nat} {ret : Option FieldType} {hh : List (Nat × Nat × Nat × Nat)}
    (hy : plainFor y = true) (hw : ws = Cond.codeWith y cc maxL ret hh :: ws')
    (body : ∀ p e s m args below meth c s₁, BodyLoose p l y (headSpec ws rm) cc maxL ret e s m args below meth c s₁ → c.maxLocals = maxL → Pc args s →
      W p l e (headSpec ws rm).room s m args below meth c s.heap [] 0 0 (MQ below Qc args s mc ms free) (entryFrame m args maxL)) : Met l y ws rm Pc Qc mc ms free := by
  refine MetFree.of_bodySF (code := cc) (maxLocals := maxL) (ret := ret) hy ?_ ?_
  · intro args s m h hn
    obtain ⟨m9, meth, c, hn9, h1, h2, h3, h4, -, h5, h6, -⟩ := Cond.codeWith_spec (atoms_spec (ws := ws) h _ (by rw [hw]; exact List.mem_cons_self))
    cases hn.symm.trans hn9
    exact ⟨meth, c, h1, h2, h3, h4, h5, h6⟩
  · intro p e s m args below meth c s₁ B hml hP _
    have hh0 : s₁.heap = s.heap := by rw [B.state]; rfl
    obtain ⟨t, a1, o, b1, b2, b3⟩ := body p e s m args below meth c s₁ B hml hP s₁ hh0 (Stand.of_body B)
    exact ⟨t, o, a1, b1, b2, b3⟩
theorem lr_D {A : Nat → Prop} {ad : pxI → Nat} {tA : Nat → ClassId} {ids : List pxI} {σ : pxS} {q0 : Nat} {x : va_E} (hdA : px_dA A ad ids) (hq : A q0) (hne : ∀ i ∈ ids, q0 ≠ ad i) : va_D A ([(q0, x)] ++ px_ws ad tA ids cG σ) := by
  refine va_D.app ⟨fun i j p q hi hj _ => ?_, fun k q hk => ?_⟩ (px_dA_D hdA) fun i j p q hi hj => ?_
  · have h1 := (List.getElem?_eq_some_iff.mp hi).1
    have h2 := (List.getElem?_eq_some_iff.mp hj).1
    simp only [List.length_singleton] at h1 h2
    omega
  · cases List.mem_singleton.mp (List.mem_of_getElem? hk)
    exact hq
  · cases List.mem_singleton.mp (List.mem_of_getElem? hi)
    obtain ⟨i, hi, _, e⟩ := px_ws_m hj
    rw [e]
    exact hne i hi
set_option maxHeartbeats 4000000 in
theorem lr_met {l : Launch} (hl : l.stackTraces = false) {D : va_G} {tA : Nat → ClassId} {A : Nat → Prop} {ad : pxI → Nat} {ids : List pxI} {σ : pxS} {v1 v2 : Int32} {q0 : Nat} {cL : ClassId} {g : Nat → Int64} {sz : Nat}
    (hc : F_PR_isRail σ v1 = some 0 ∨ (F_PR_isRail σ v1 = some 1 ∧ ((dWh v2 = true ∧ ∃ r, F_PR_rail σ v1 v2 = some r) ∨ dWh v2 = false))) (hin : F_PR_isRail σ v1 = some 1 → vp_in v1 12)
    (hdA : px_dA A ad ids) (hq : A q0) (hne : ∀ i ∈ ids, q0 ≠ ad i) (hA : ∀ q : Nat, sz ≤ q → A q) (hcl : px_clo ids cG σ) (hz : (0, 0, 0) ∈ ids) :
    Met l lr_y lr_ws (px_Rm 7 1 6) (lr_Pc D tA A ad ids σ v1 v2 q0 cL g sz) (lr_Qc D tA A ad ids σ v1 v2 q0 cL) 1 6 A := by
  refine lr_MetH (cc := method_3_code) (maxL := 5) (ret := some .int) (hh := lr_hh) (by decide +kernel) rfl ?_
  intro p e s m args below meth c s₁ B hml hv
  obtain ⟨rfl, hsz, hP, hO, hK, hE, hXE⟩ := hv
  subst hsz
  have hts0 := atoms_spec (ws := lr_ws) B.pre
  have hts : ∀ w ∈ pxW, w.before _ s = true := fun w hw => hts0 w (List.mem_cons_of_mem _ hw)
  have htab : c.exceptionTable.toList = [] ++ ⟨0, 10, 13, 13⟩ :: [⟨0, 10, 17, 15⟩] := vx_table (x := lr_y) B (hts0 _ List.mem_cons_self)
  have htab2 : c.exceptionTable.toList = [⟨0, 10, 13, 13⟩] ++ ⟨0, 10, 17, 15⟩ :: [] := htab
  have hown : s.vm.findClass "PowerRailsLaw" = some m.cls := findClass_of_methodNamed B.named
  have hS0 : va_S A s.heap s.heap [] := va_S.rf
  have hK0 : va_K D classes (px_tys tA) s := hK.sub [0, 1, 2, 3, 4] rfl
  rw [lg_entry_eq]
  have hl0 : lv_has ((lg_sl ([.ref (ad (0, 0, 0)), .int v1, .int v2, .ref q0] : List Value) ++ List.replicate (5 - (lg_sl ([.ref (ad (0, 0, 0)), .int v1, .int v2, .ref q0] : List Value)).length) Slot.unset).toArray) 5 (lv_args 0 ([.ref (ad (0, 0, 0)), .int v1, .int v2, .ref q0] : List Value)) := lv_entry _ (Nat.le_of_ble_eq_true rfl)
  generalize ((lg_sl ([.ref (ad (0, 0, 0)), .int v1, .int v2, .ref q0] : List Value) ++ List.replicate (5 - (lg_sl ([.ref (ad (0, 0, 0)), .int v1, .int v2, .ref q0] : List Value)).length) Slot.unset).toArray) = ls at hl0
  have hl0 : lv_has ls 5 [(0, .ref (ad (0, 0, 0))), (1, .int v1), (2, .int v2), (3, .ref q0)] := hl0
  refine lv_aload_n B.exec B.bytes (px_at lr_td 0 rfl) rfl (lv_at hl0 3 rfl) ?_
  refine lv_iconst (v := 0) B.exec B.bytes (px_at lr_td 1 rfl) (by decide) ?_
  refine lv_aload_n B.exec B.bytes (px_at lr_td 2 rfl) rfl (lv_at hl0 0 rfl) ?_
  refine lv_iload_n B.exec B.bytes (px_at lr_td 3 rfl) rfl (lv_at hl0 1 rfl) ?_
  refine lv_iload_n B.exec B.bytes (px_at lr_td 4 rfl) rfl (lv_at hl0 2 rfl) ?_
  refine px_rcall (own := "PowerRailsLaw") (idx := 7) (wr := lr_o q0 cL g) hl hc hin B.exec B.bytes hml hown hts hK0 hE hXE hA hP hdA hS0 hcl hz hO (fun k q hk i hi => ?_) (px_at lr_td 5 rfl) lr_lV (Nat.le_of_ble_eq_true rfl) hl0.1 ⟨Nat.le_of_ble_eq_true rfl, Nat.le_of_ble_eq_true rfl⟩ ⟨Nat.le_of_ble_eq_true rfl, Nat.le_of_ble_eq_true rfl⟩ ?_ ?_
  · cases List.mem_singleton.mp (List.mem_of_getElem? hk)
    exact hne i hi
  · intro r H1 locs1 hr1 hr hP1 hO1 hS1
    refine lv_i2l (v := r.toInt64) B.exec B.bytes (px_at lr_td 6 rfl) rfl ?_
    refine va_last (ws := lr_o q0 cL g ++ px_ws ad tA ids cG σ) B.exec B.bytes hK (hO1.app hP1) (lr_D hdA hq hne) hS1 0 5 rfl rfl (by unfold vp_in; decide) (px_at lr_td 7 rfl) fun H2 locs2 hP2 _ hS2 => ?_
    refine lv_goto (tgt := 21) B.exec B.bytes (px_at lr_td 8 rfl) (by decide) ?_
    refine lv_iconst (v := 0) B.exec B.bytes (px_at lr_td 15 rfl) (by decide) ?_
    refine W.iret (v := 0) B.exec B.bytes B.returns (fun t ht _ => ?_) hS2.2.2 (px_at lr_td 16 rfl) B.notSynchronized
    refine ⟨0, vp_updL g 0 r.toInt64, rfl, Or.inl ⟨rfl, hr1, r, hr, by simp [vp_updL]⟩, ?_, ?_, hS2.F ht⟩
    · intro k q hk
      rw [ht]
      exact hP2 (k + 1) q hk
    · intro k q hk
      rw [ht]
      have h1 := (List.getElem?_eq_some_iff.mp hk).1
      have h2 : k = 0 := by simp only [lr_o, List.length_singleton] at h1; omega
      subst h2
      exact hP2 0 q hk
  · intro E ce q9 H1 locs1 hE9 hP1 hO1 hS1 hce hcv hcls
    have hPt : ∀ t : State, t.heap = H1 → va_P D classes (px_ws ad tA ids cG σ) t.heap ∧ va_P D classes (lr_o q0 cL g) t.heap := fun t ht => by rw [ht]; exact ⟨hP1, hO1⟩
    rcases hE9 with ⟨rfl, hi0⟩ | ⟨rfl, hi1, hw2⟩
    · refine vx_catch (own := "PowerRailsLaw") (name := "java/lang/IndexOutOfBoundsException") hown [] ⟨0, 10, 13, 13⟩ [⟨0, 10, 17, 15⟩] htab (fun z hz => absurd hz List.not_mem_nil) rfl (by decide) (hts _ (px_w 1035 (by decide +kernel) (by decide +kernel))) (hXE.w _ (by decide)) hce hcv hcls ?_
      refine lv_astore (lv' := [(4, .ref q9), (0, .ref (ad (0, 0, 0))), (1, .int v1), (2, .int v2), (3, .ref q0)]) B.exec B.bytes (px_at lr_td 9 rfl) hl0 (by decide) rfl fun ls hl0 => ?_
      refine lv_iconst (v := 1) B.exec B.bytes (px_at lr_td 10 rfl) (by decide) ?_
      refine W.iret (v := 1) B.exec B.bytes B.returns (fun t ht _ => ?_) hS1.2.2 (px_at lr_td 11 rfl) B.notSynchronized
      exact ⟨1, g, rfl, Or.inr (Or.inl ⟨rfl, hi0⟩), (hPt t ht).1, (hPt t ht).2, hS1.F ht⟩
    · refine vx_catch (own := "PowerRailsLaw") (name := "java/util/NoSuchElementException") hown [⟨0, 10, 13, 13⟩] ⟨0, 10, 17, 15⟩ [] htab2 (fun z hz => ?_) rfl (by decide) (hts _ (px_w 1036 (by decide +kernel) (by decide +kernel))) (hXE.w _ (by decide)) hce hcv hcls ?_
      · cases List.mem_singleton.mp hz
        exact Or.inr ⟨by decide, "java/lang/IndexOutOfBoundsException", hts _ (px_w 1035 (by decide +kernel) (by decide +kernel)), hXE.1.2.2.2.2.2⟩
      refine lv_astore (lv' := [(4, .ref q9), (0, .ref (ad (0, 0, 0))), (1, .int v1), (2, .int v2), (3, .ref q0)]) B.exec B.bytes (px_at lr_td 12 rfl) hl0 (by decide) rfl fun ls hl0 => ?_
      refine lv_iconst (v := 2) B.exec B.bytes (px_at lr_td 13 rfl) (by decide) ?_
      refine W.iret (v := 2) B.exec B.bytes B.returns (fun t ht _ => ?_) hS1.2.2 (px_at lr_td 14 rfl) B.notSynchronized
      exact ⟨2, g, rfl, Or.inr (Or.inr ⟨rfl, hi1, hw2⟩), (hPt t ht).1, (hPt t ht).2, hS1.F ht⟩
