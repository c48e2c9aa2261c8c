/-! A SYSTEM IN NUMBERS: its cells have ids; what a cell is (its class, what its references are) is told by its id; all else is numbers, one for each id and place.
'pw': from a program counter, with locals, stack and numbers as told, the method comes to an end that 'Rt' allows. 'pm': a method's contract. A row an instruction; no heap, no address is seen above them. -/
abbrev pxI : Type := Nat × Nat × Nat
abbrev pxV : Type := Int32 ⊕ Option pxI
abbrev pxS : Type := pxI → Nat → Int32
abbrev pxK : Type := Option (Nat ⊕ Option pxI)
abbrev pxC : Type := (Nat × Nat) ⊕ ((Nat × Nat × (Nat → Option pxI)) ⊕ (Nat × List pxK))
abbrev pxG : Type := pxI → pxC
def px_sv (q : pxK) (x : Int32) : pxV := match q with
  | none => .inl x
  | some (.inl kd) => .inr (some (kd, x.toNatClampNeg, 0))
  | some (.inr r) => .inr r
def px_mv (ad : pxI → Nat) (v : pxV) : Value := match v with
  | .inl x => .int x
  | .inr none => .null
  | .inr (some i) => .ref (ad i)
def px_fs (ad : pxI → Nat) (sl : List pxK) (f : Nat → Int32) : List Value := sl.mapIdx fun k q => px_mv ad (px_sv q (f k))
def px_ce (ad : pxI → Nat) (tA : Nat → ClassId) (c : pxC) (f : Nat → Int32) : va_E := match c with
  | .inl (t, n) => .inl (tA t, n, .inl f)
  | .inr (.inl (t, n, g)) => .inl (tA t, n, .inr (.inr (.inr (.inr fun j => if j < n then (g j).map ad else none))))
  | .inr (.inr (ci, sl)) => .inr (ci, px_fs ad sl f)
def px_ws (ad : pxI → Nat) (tA : Nat → ClassId) (ids : List pxI) (G : pxG) (σ : pxS) : va_W := ids.map fun i => (ad i, px_ce ad tA (G i) (σ i))
def px_vv (ids : List pxI) (v : pxV) : Prop := ∀ r, v = .inr (some r) → r ∈ ids
/-- every reference that a cell holds is one of the system's -/
def px_clo (ids : List pxI) (G : pxG) (σ : pxS) : Prop := ∀ i ∈ ids, match G i with
  | .inl _ => True
  | .inr (.inl (_, n, g)) => ∀ j, j < n → px_vv ids (.inr (g j))
  | .inr (.inr (_, sl)) => ∀ k q, sl[k]? = some q → px_vv ids (px_sv q (σ i k))
def px_up (σ : pxS) (i : pxI) (k : Nat) (v : Int32) : pxS := fun j n => if j = i ∧ n = k then v else σ j n
theorem px_up_ne {σ : pxS} {i j : pxI} {k : Nat} {v : Int32} (h : j ≠ i) : px_up σ i k v j = σ j := by
  funext n
  simp [px_up, h]
theorem px_up_self {σ : pxS} {i : pxI} {k : Nat} {v : Int32} : px_up σ i k v i = upd (σ i) k v := by
  funext n
  simp [px_up, upd]
theorem px_ws_get {ad : pxI → Nat} {tA : Nat → ClassId} {ids : List pxI} {G : pxG} {σ : pxS} {q0 : Nat} {i : pxI} (h : ids[q0]? = some i) : (px_ws ad tA ids G σ)[q0]? = some (ad i, px_ce ad tA (G i) (σ i)) := by
  simp [px_ws, h]
theorem px_ws_set {A : Nat → Prop} {ad : pxI → Nat} {tA : Nat → ClassId} {ids : List pxI} {G G' : pxG} {σ σ' : pxS} {q0 : Nat} {i : pxI} (hD : va_D A (px_ws ad tA ids G σ)) (h : ids[q0]? = some i) (ho : ∀ j ∈ ids, j ≠ i → px_ce ad tA (G' j) (σ' j) = px_ce ad tA (G j) (σ j)) : (px_ws ad tA ids G σ).set q0 (ad i, px_ce ad tA (G' i) (σ' i)) = px_ws ad tA ids G' σ' := by
  apply List.ext_getElem?
  intro k
  by_cases hk : q0 = k
  · subst hk
    have hl : q0 < (px_ws ad tA ids G σ).length := by
      have := (List.getElem?_eq_some_iff.mp h).1
      simpa [px_ws] using this
    rw [List.getElem?_set_self hl, px_ws_get h]
  · rw [List.getElem?_set_ne hk]
    cases hj : ids[k]? with
    | none => simp [px_ws, hj]
    | some j =>
      rw [px_ws_get hj, px_ws_get hj]
      have hne : j ≠ i := fun e => by
        subst e
        exact hk (hD.1 q0 k _ _ (px_ws_get h) (px_ws_get hj) rfl)
      rw [ho j (List.mem_of_getElem? hj) hne]
theorem px_fs_get {ad : pxI → Nat} {sl : List pxK} {f : Nat → Int32} {k : Nat} {q : pxK} (h : sl[k]? = some q) : (px_fs ad sl f)[k]? = some (px_mv ad (px_sv q (f k))) := by
  simp [px_fs, h]
theorem px_fs_set {ad : pxI → Nat} {sl : List pxK} {f : Nat → Int32} {k : Nat} {q : pxK} {v : Int32} (h : sl[k]? = some q) : (px_fs ad sl f).set k (px_mv ad (px_sv q v)) = px_fs ad sl (upd f k v) := by
  have hl : k < sl.length := (List.getElem?_eq_some_iff.mp h).1
  apply List.ext_getElem?
  intro j
  by_cases hj : k = j
  · subst hj
    rw [List.getElem?_set_self (by simpa [px_fs] using hl), px_fs_get h]
    simp [upd]
  · rw [List.getElem?_set_ne hj]
    cases hq : sl[j]? with
    | none => simp [px_fs, hq]
    | some q' =>
      rw [px_fs_get hq, px_fs_get hq]
      simp [upd, Ne.symm hj]
theorem px_mv_cat (ad : pxI → Nat) (v : pxV) : (px_mv ad v).category = 1 := by
  rcases v with x | r | r <;> rfl
theorem px_vi {ids : List pxI} {x : Int32} : px_vv ids (.inl x) := fun r h => by cases h
def px_tys (tA : Nat → ClassId) : List (ClassId × FieldType) := [(tA 0, .int), (tA 1, .byte), (tA 2, .boolean), (tA 3, .object "PowerRails$Board"), (tA 4, .object "PowerRails$Rail")]
/-- what stands outside of every system: the two texts, and two statics of the JDK's -/
def px_len : List Nat := [76, 84]
def px_byt : List (List Int32) := [[114, 97, 105, 108, 32, 110, 101, 101, 100, 115, 32, 111, 110, 32, 111, 102, 102, 32, 119, 97, 105, 116, 32, 103, 117, 97, 114, 100, 32, 100, 114, 111, 111, 112, 32, 102, 97, 108, 108, 32, 108, 111, 119, 32, 102, 105, 108, 116, 101, 114, 32, 114, 101, 116, 114, 121, 32, 98, 117, 100, 103, 101, 116, 32, 115, 101, 101, 100, 32, 115, 111, 117, 114, 99, 101, 32], [114, 97, 105, 108, 32, 32, 110, 101, 101, 100, 115, 32, 111, 110, 32, 32, 32, 32, 111, 102, 102, 32, 32, 32, 119, 97, 105, 116, 32, 32, 103, 117, 97, 114, 100, 32, 100, 114, 111, 111, 112, 32, 102, 97, 108, 108, 32, 32, 108, 111, 119, 32, 32, 32, 102, 105, 108, 116, 101, 114, 114, 101, 116, 114, 121, 32, 98, 117, 100, 103, 101, 116, 115, 101, 101, 100, 32, 32, 115, 111, 117, 114, 99, 101]]
def px_nl : List (String × Nat × MethodName × String) := [("PowerRails$Reader", 11, ⟨"PowerRails$Plan", "<init>", "()V"⟩, "PowerRails"), ("PowerRails", 30, ⟨"PowerRails$Plan", "<init>", "()V"⟩, "PowerRails"), ("PowerRails$Board", 19, ⟨"PowerRails$Queue", "<init>", "()V"⟩, "PowerRails"), ("PowerRails$Board", 35, ⟨"PowerRails$Rail", "<init>", "()V"⟩, "PowerRails")]
def px_nr : List String := ["PowerRails$Board", "PowerRails$Rail"]
def px_Ns (U : State) : Prop := (∀ q ∈ px_nl, va_Nw (.methodLinkNest q.1 q.2.1 q.2.2.1 q.2.2.2) U) ∧ ∀ C ∈ px_nr, va_AO C U
theorem px_Ns.warm {s U : State} (hW : s.WarmedH U.vm) (h : px_Ns s) : px_Ns U := ⟨fun q hq => va_Nw.warmM hW (h.1 q hq), fun C hC => va_AO.moved hW.alike (h.2 C hC)⟩
theorem px_Ns.calling {U : State} {g : JFrame} {mk : MethodId} {a : Array Value} (h : px_Ns U) : px_Ns (U.calling g mk a) := ⟨fun q hq => va_Nw.same rfl (u := U) (U := U.calling g mk a) rfl (h.1 q hq), fun C hC => va_AO.moved (u := U) (U := U.calling g mk a) (Vm.Alike.refl U.vm) (h.2 C hC)⟩
def px_E (A : Nat → Prop) (U : State) (H : Heap) : Prop := ∃ adK adV : Nat → Nat, vk_S 2 px_len px_byt adK adV A U H ∧ vk_R "PowerRailsModel" 138 "rail needs on off wait guard droop fall low filter retry budget seed source " (adK 0) U ∧ vk_R "PowerRails$Reader" 198 "rail  needs on    off   wait  guard droop fall  low   filterretry budgetseed  source" (adK 1) U ∧
  va_Z "java/lang/String" "COMPACT_STRINGS" "Z" (.int 1) A U H ∧ va_Zq "jdk/internal/util/Preconditions" "SIOOBE_FORMATTER" "Ljava/util/function/BiFunction;" A U H ∧ px_Ns U
theorem px_E.call {A B : Nat → Prop} {s U : State} {H : Heap} {locs : List Loc} (h : px_E A s s.heap) (hS : va_S A s.heap H locs) (hBA : ∀ q, B q → A q) (hW : s.WarmedH U.vm) (hU : U.heap = H) : px_E B U U.heap := by
  obtain ⟨adK, adV, h1, h2, h3, h4, h5, h6⟩ := h
  subst hU
  exact ⟨adK, adV, ((h1.kept hS.2.1).moved hW.alike).narrow hBA, h2.warm hW, h3.warm hW, ((h4.kept hS.2.1).moved hW.alike).narrow hBA, ((h5.kept hS.2.1).moved hW.alike).narrow hBA, h6.warm hW⟩
theorem px_E.ns {A : Nat → Prop} {U : State} {H : Heap} (h : px_E A U H) : px_Ns U := by
  obtain ⟨adK, adV, h1, h2, h3, h4, h5, h6⟩ := h
  exact h6
theorem px_E.calling {A : Nat → Prop} {U : State} {g : JFrame} {mk : MethodId} {a : Array Value} (h : px_E A U U.heap) : px_E A (U.calling g mk a) (U.calling g mk a).heap := by
  obtain ⟨adK, adV, h1, h2, h3, h4, h5, h6⟩ := h
  exact ⟨adK, adV, h1.moved (u := U) (U := U.calling g mk a) (Vm.Alike.refl U.vm), vk_R.same (u := U) (U := U.calling g mk a) rfl h2, vk_R.same (u := U) (U := U.calling g mk a) rfl h3, h4.moved (u := U) (U := U.calling g mk a) (Vm.Alike.refl U.vm), h5.moved (u := U) (U := U.calling g mk a) (Vm.Alike.refl U.vm), h6.calling⟩
def px_ctx (p : Program) (s : State) (m : MethodId) (args : Array Value) (meth : Method) (c : Code) (y : MethodName) (cc : ByteArray) (nL : Nat) (ret : Option FieldType) (D : va_G) (tA : Nat → ClassId) (A : Nat → Prop) : Prop :=
  p.tables.exec = Jvm.exec ∧ c.code = cc ∧ meth.sig.returnType = ret ∧ c.maxLocals = nL ∧ meth.name = y.name ∧ (∀ w ∈ pxW, w.before args s = true) ∧ s.vm.findClass y.cls = some m.cls ∧ meth.locks = false ∧ px_E A s s.heap ∧ va_K D classes (px_tys tA) s
def px_rel (D : va_G) (tA : Nat → ClassId) (ad : pxI → Nat) (A : Nat → Prop) (ids : List pxI) (G : pxG) (σ : pxS) (H0 H : Heap) (locs : List Loc) : Prop :=
  va_P D classes (px_ws ad tA ids G σ) H ∧ va_D A (px_ws ad tA ids G σ) ∧ va_S A H0 H locs ∧ px_clo ids G σ ∧ ∀ q : Nat, H0.size ≤ q → A q
def px_ml (ad : pxI → Nat) (L : List (Nat × pxV)) : List (Nat × Value) := L.map fun q => (q.1, px_mv ad q.2)
def px_Qc (D : va_G) (tA : Nat → ClassId) (ad0 : pxI → Nat) (ids0 : List pxI) (Rt : Option pxV → List pxI → pxG → pxS → Prop) (A : Nat → Prop) : Array Value → State → Outcome → State → Prop := fun _ st o t =>
  ∃ (v : Option pxV) (ids : List pxI) (G : pxG) (σ : pxS) (ad : pxI → Nat), Rt v ids G σ ∧ (∀ i ∈ ids0, i ∈ ids) ∧ (∀ i ∈ ids0, ad i = ad0 i) ∧ o = .returned (v.map (px_mv ad)) ∧ (∀ w, v = some w → px_vv ids w) ∧ px_clo ids G σ ∧
    va_P D classes (px_ws ad tA ids G σ) t.heap ∧ va_D A (px_ws ad tA ids G σ) ∧ va_F A st t
def px_X (p : Program) (l : Launch) (e : Env) (R : Room) (s : State) (m : MethodId) (args : Array Value) (below : List Frame) (meth : Method) (c : Code) (H : Heap) (locs : List Loc) (ls : Array Slot) (D : va_G) (tA : Nat → ClassId) (ad ad0 : pxI → Nat) (ids0 : List pxI) (A : Nat → Prop)
    (y : MethodName) (cc : ByteArray) (nL : Nat) (ret : Option FieldType) (L : List (Nat × pxV)) (st : List pxV) (ids : List pxI) (G : pxG) (σ : pxS) : Prop :=
  px_ctx p s m args meth c y cc nL ret D tA A ∧ px_rel D tA ad A ids G σ s.heap H locs ∧ lv_has ls nL (px_ml ad L) ∧ (∀ q ∈ L, px_vv ids q.2) ∧ (∀ v ∈ st, px_vv ids v) ∧ (∀ i ∈ ids0, i ∈ ids) ∧ ∀ i ∈ ids0, ad i = ad0 i
def pw (l : Launch) (R : Room) (y : MethodName) (cc : ByteArray) (nL : Nat) (ret : Option FieldType) (pc : Nat) (L : List (Nat × pxV)) (st : List pxV) (ids : List pxI) (G : pxG) (σ : pxS) (k n : Nat) (Rt : Option pxV → List pxI → pxG → pxS → Prop) : Prop :=
  ∀ (p : Program) (e : Env) (s : State) (m : MethodId) (args : Array Value) (below : List Frame) (meth : Method) (c : Code) (H : Heap) (locs : List Loc) (ls : Array Slot) (D : va_G) (tA : Nat → ClassId) (ad ad0 : pxI → Nat) (ids0 : List pxI) (A : Nat → Prop),
    px_X p l e R s m args below meth c H locs ls D tA ad ad0 ids0 A y cc nL ret L st ids G σ →
    W p l e R s m args below meth c H locs k n (MQ below (px_Qc D tA ad0 ids0 Rt A) args s R.cells R.slots A) (F0 m pc ls (st.map (px_mv ad)))
def px_Pc (D : va_G) (tA : Nat → ClassId) (ad : pxI → Nat) (ids : List pxI) (G : pxG) (σ : pxS) (as : List pxV) (sz : Nat) : Array Value → State → Prop := fun v U =>
  v = (as.map (px_mv ad)).toArray ∧ U.heap.size = sz ∧ va_P D classes (px_ws ad tA ids G σ) U.heap ∧ va_K D classes (px_tys tA) U ∧ va_D (fun _ => True) (px_ws ad tA ids G σ) ∧ px_clo ids G σ ∧ (∀ w ∈ as, px_vv ids w) ∧ px_E (va_A (px_ws ad tA ids G σ) sz) U U.heap
def pxws (y : MethodName) (cc : ByteArray) (nL : Nat) (ret : Option FieldType) : List Cond := .code y cc nL ret :: pxW
def pm (l : Launch) (y : MethodName) (cc : ByteArray) (nL : Nat) (ret : Option FieldType) (R : Room) (as : List pxV) (ids : List pxI) (G : pxG) (σ : pxS) (Rt : Option pxV → List pxI → pxG → pxS → Prop) : Prop :=
  ∀ (D : va_G) (tA : Nat → ClassId) (ad : pxI → Nat) (sz : Nat), Met l y (pxws y cc nL ret) R (px_Pc D tA ad ids G σ as sz) (px_Qc D tA ad ids Rt (va_A (px_ws ad tA ids G σ) sz)) R.cells R.slots (va_A (px_ws ad tA ids G σ) sz)
def px_args : Nat → List pxV → List (Nat × pxV)
  | _, [] => []
  | i, v :: vs => (i, v) :: px_args (i + 1) vs
theorem px_args_ml (ad : pxI → Nat) : ∀ (as : List pxV) (i : Nat), px_ml ad (px_args i as) = lv_args i (as.map (px_mv ad))
  | [], _ => rfl
  | v :: vs, i => by
    have h := px_args_ml ad vs (i + 1)
    show (i, px_mv ad v) :: px_ml ad (px_args (i + 1) vs) = (i, px_mv ad v) :: lv_args (if (px_mv ad v).category = 2 then i + 2 else i + 1) (vs.map (px_mv ad))
    rw [if_neg (by rw [px_mv_cat]; decide), h]
theorem px_sl_len (ad : pxI → Nat) : ∀ (as : List pxV), (lg_sl (as.map (px_mv ad))).length = as.length
  | [] => rfl
  | v :: vs => by
    have h := px_sl_len ad vs
    show ((if (px_mv ad v).category = 2 then [Slot.val (px_mv ad v), .second] else [.val (px_mv ad v)]) ++ lg_sl (vs.map (px_mv ad))).length = vs.length + 1
    rw [if_neg (by rw [px_mv_cat]; decide), List.length_append, h]
    simp [Nat.add_comm]
theorem px_args_mem : ∀ (as : List pxV) (i : Nat) (q : Nat × pxV), q ∈ px_args i as → q.2 ∈ as
  | [], _, _, h => by cases h
  | v :: vs, i, q, h => by
    rcases List.mem_cons.mp h with rfl | h
    · exact List.mem_cons_self
    · exact List.mem_cons_of_mem _ (px_args_mem vs (i + 1) q h)
theorem pm_of {l : Launch} {y : MethodName} {cc : ByteArray} {nL : Nat} {ret : Option FieldType} {R : Room} {as : List pxV} {ids : List pxI} {G : pxG} {σ : pxS} {Rt : Option pxV → List pxI → pxG → pxS → Prop}
    (hy : plainName y.cls = true) (hn : as.length ≤ nL) (h : pw l R y cc nL ret 0 (px_args 0 as) [] ids G σ 0 0 Rt) : pm l y cc nL ret R as ids G σ Rt := by
  intro D tA ad sz
  refine Met.ofW (cc := cc) (maxL := nL) (ret := ret) hy rfl ?_
  intro p e s m args below meth c s₁ B hml hv
  obtain ⟨rfl, hsz, hP, hK, hD0, hcl, hvv, hE⟩ := hv
  subst hsz
  have hts := atoms_spec (ws := pxws y cc nL ret) B.pre
  rw [lg_entry_eq]
  exact h p e s m _ below meth c s.heap [] _ D tA ad ad ids _
    ⟨⟨B.exec, B.bytes, B.returns, hml, (name_of_methodNamed B.named B.method).1, fun w hw => hts w (List.mem_cons_of_mem _ hw), findClass_of_methodNamed B.named, B.notSynchronized, hE, hK⟩,
      ⟨hP, hD0.self, va_S.rf, hcl, fun q hq => Or.inr hq⟩, by rw [px_args_ml]; exact lv_entry _ (by rw [px_sl_len]; exact hn), fun q hq => hvv _ (px_args_mem as 0 q hq), fun v hv => absurd hv List.not_mem_nil, fun i hi => hi, fun i _ => rfl⟩
