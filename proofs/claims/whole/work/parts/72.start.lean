/-! the start -/
theorem lI_L17 : px_yI "PowerRailsLaw" 17 y_PR_init c_PR_init 2 0 := ⟨Or.inl (px_w 123 (by decide +kernel) (by decide +kernel)), (px_w 100 (by decide +kernel) (by decide +kernel)), (px_w 125 (by decide +kernel) (by decide +kernel)), (px_w 124 (by decide +kernel) (by decide +kernel)), rfl, by decide +kernel, by decide +kernel, by decide +kernel⟩
theorem lI_L20 : px_yI "PowerRailsLaw" 20 y_Mo_init c_Mo_init 1 0 := ⟨Or.inl (px_w 1121 (by decide +kernel) (by decide +kernel)), (px_w 110 (by decide +kernel) (by decide +kernel)), (px_w 1123 (by decide +kernel) (by decide +kernel)), (px_w 1122 (by decide +kernel) (by decide +kernel)), rfl, by decide +kernel, by decide +kernel, by decide +kernel⟩
theorem ls_in : ∀ (k : Nat) (q : vw_C), classes[k]? = some q → Cond.instantiable q.1 q.2.2 ∈ pxW := fun k q hq => by
  match k, hq with
  | 0, hq => cases hq; exact px_w 122 (by decide +kernel) (by decide +kernel)
  | 1, hq => cases hq; exact px_w 136 (by decide +kernel) (by decide +kernel)
  | 2, hq => cases hq; exact px_w 359 (by decide +kernel) (by decide +kernel)
  | 3, hq => cases hq; exact px_w 386 (by decide +kernel) (by decide +kernel)
  | 4, hq => cases hq; exact px_w 367 (by decide +kernel) (by decide +kernel)
  | 5, hq => cases hq; exact px_w 130 (by decide +kernel) (by decide +kernel)
  | 6, hq => cases hq; exact px_w 1120 (by decide +kernel) (by decide +kernel)
  | k + 7, hq => simp [classes] at hq
/-- the classes, and those of the arrays, are known -/
theorem ls_K {s : State} {b : Nat} (hts : ∀ w ∈ pxW, w.before #[Value.ref b] s = true) (hNs : px_Ns s) : ∃ (D : va_G) (tA : Nat → ClassId), va_K D classes (px_tys tA) s := by
  have h1 : ∀ k : Nat, ∃ c : ClassId, ∃ iS : Nat → Nat, ∀ q, classes[k]? = some q → u_Kn s q.1 q.2.1 q.2.2 c iS := fun k => by
    cases hk : classes[k]? with
    | none =>
      obtain ⟨c, iS, _⟩ := u_known (n := 13) hts (px_cls (ci := 0) rfl).1 (hts _ (ls_in 0 _ rfl))
      exact ⟨c, iS, fun q hq => by cases hq⟩
    | some q =>
      obtain ⟨c, iS, h⟩ := u_known (n := q.2.2) hts (px_cls hk).1 (hts _ (ls_in k q hk))
      exact ⟨c, iS, fun q' hq' => by cases hq'; exact h⟩
  obtain ⟨dC, h2⟩ := Classical.skolem.mp h1
  obtain ⟨dI, h3⟩ := Classical.skolem.mp h2
  obtain ⟨a0, b0, c0⟩ := ls_prim (b := b) (ty := .int) (fun C h => by cases h) (hts _ (px_w 242 (by decide +kernel) (by decide +kernel)))
  obtain ⟨a1, b1, c1⟩ := ls_prim (b := b) (ty := .byte) (fun C h => by cases h) (hts _ (px_w 241 (by decide +kernel) (by decide +kernel)))
  obtain ⟨a2, b2, c2⟩ := ls_prim (b := b) (ty := .boolean) (fun C h => by cases h) (hts _ (px_w 1278 (by decide +kernel) (by decide +kernel)))
  obtain ⟨a3, b3, c3⟩ := ls_obj (hNs.2 "PowerRails$Board" (by decide))
  obtain ⟨a4, b4, c4⟩ := ls_obj (hNs.2 "PowerRails$Rail" (by decide))
  refine ⟨(dC, dI), fun k => if k = 0 then a0 else if k = 1 then a1 else if k = 2 then a2 else if k = 3 then a3 else a4, h3, fun k q hq => ?_⟩
  match k, hq with
  | 0, hq => cases hq; exact ⟨b0, c0⟩
  | 1, hq => cases hq; exact ⟨b1, c1⟩
  | 2, hq => cases hq; exact ⟨b2, c2⟩
  | 3, hq => cases hq; exact ⟨b3, c3⟩
  | 4, hq => cases hq; exact ⟨b4, c4⟩
  | k + 5, hq => simp [px_tys] at hq
section PXZ
variable {p : Program} {l : Launch} {e : Env} {R : Room} {s : State} {m : MethodId} {args : Array Value} {below : List Frame} {meth : Method} {c : Code} {H : Heap} {locs : List Loc} {cells slots : Nat} {Q : State → Prop} {cc : ByteArray} {nL pc : Nat} {ls : Array Slot} {rest : List Value} {D : va_G} {tA : Nat → ClassId} {A : Nat → Prop} {ad : pxI → Nat} {ids ids' : List pxI} {G G' : pxG} {σ σ' : pxS}
/-- a constructor's call beside other cells -/
theorem px_icall {own : String} {idx : Nat} {y' : MethodName} {cc' : ByteArray} {nL' : Nat} {R' : Room} {wr : va_W}
    (hx : p.tables.exec = Jvm.exec) (hb : c.code = cc) (hml : c.maxLocals = nL) (hown : s.vm.findClass own = some m.cls) (hts : ∀ w ∈ pxW, w.before args s = true) (hK : va_K D classes (px_tys tA) s) (hE : px_E A s s.heap) (hA : ∀ q : Nat, s.heap.size ≤ q → A q)
    (hP : va_P D classes (px_ws ad tA ids G σ) H) (hdA : px_dA A ad ids) (hS : va_S A s.heap H locs) (hcl : px_clo ids G σ) (hz : (0, 0, 0) ∈ ids) (hwr : va_P D classes wr H) (hdj : ∀ (k : Nat) (q : Nat × va_E), wr[k]? = some q → ∀ i ∈ ids, q.1 ≠ ad i)
    (hd : decode cc pc = .ok (.invokespecial idx, 3)) (hw : px_yI own idx y' cc' nL' 0) (hlk : Cond.methodLink own idx y' ∈ pxW) (h8 : (rest.map fun v => v.category).sum ≤ 8) (hls : ls.size = nL) (hR : R'.frames + 1 ≤ R.frames ∧ 8 + (nL' + 11) + R'.locals ≤ R.locals) (hk : cells + R'.cells ≤ R.cells ∧ slots + R'.slots ≤ R.slots)
    (hm : pm l y' cc' nL' none R' [.inr (some (0, 0, 0))] ids G σ (px_r none ids' G' σ'))
    (kk : ∀ (H1 : Heap) (locs1 : List Loc) (ad' : pxI → Nat), (∀ i ∈ ids, ad' i = ad i) → va_P D classes (px_ws ad' tA ids' G' σ') H1 → va_P D classes wr H1 → va_S A s.heap H1 locs1 → px_clo ids' G' σ' → px_dA A ad' ids' → (∀ (k : Nat) (q : Nat × va_E), wr[k]? = some q → ∀ i ∈ ids', q.1 ≠ ad' i) → W p l e R s m args below meth c H1 locs1 (cells + R'.cells) (slots + R'.slots) Q (F0 m (pc + 3) ls rest)) :
    W p l e R s m args below meth c H locs cells slots Q (F0 m pc ls (.ref (ad (0, 0, 0)) :: rest)) := by
  have hD : va_D A (px_ws ad tA ids G σ) := px_dA_D hdA
  have hvs : ∀ v ∈ ([.inr (some (0, 0, 0))] : List pxV), px_vv ids v := fun v hv => by
    cases List.mem_singleton.mp hv
    intro r hr
    cases hr
    exact hz
  obtain ⟨w1, w2, w3, w5, w6, w4⟩ := hw
  have hfree := px_free hD hS hA
  have hrun := va_runI (l := l) (e := e) (R := R) (below := below) (meth := meth) (locs := locs) (cells := cells) (slots := slots) (As := []) (rest := rest) (g := F0 m pc ls (.ref (ad (0, 0, 0)) :: rest)) (n := 0) (own := own) (index := idx) (Ts := pxW) (nL := nL) (b := ad (0, 0, 0)) ⟨hx, hb, hml, hown, hts⟩ (hm D tA ad H.size) (cwI 0 hts (px_good w3) rfl rfl rfl (hts _ w2) (hts _ hlk) (hts _ w5) w6 w4 hR)
    ⟨px_blind D tA ad ids G σ _ _, fun U hU hW => ⟨rfl, by rw [hU], by rw [hU]; exact hP, va_K.moved hW.alike hK, hD.weaken (fun _ _ _ _ => trivial), hcl, hvs, hE.call hS hfree hW hU⟩⟩ rfl rfl hls rfl (lv_room h8) hd hk
  intro T hT2 XT
  obtain ⟨v, st₀, t, T', L', g0, X', hL, e1, e2, ⟨v', ids9, G9, σ9, ad', ⟨rfl, rfl, rfl, rfl⟩, hin, had, hv, hvv, hcl', hP', hD', hF⟩, stp⟩ := hrun T hT2 XT
  have hzz : H.size ≤ T'.heap.size := by rw [e1, ← g0]; exact hF.1
  have hkp : ∀ q : Nat, q < H.size → ¬ va_A (px_ws ad tA ids G σ) H.size q → T'.heap[q]? = H[q]? := fun q h1 h2 => by rw [e1, ← g0]; exact hF.2 q (by rw [g0]; exact h1) h2
  have hS' : va_S A s.heap T'.heap (locs ++ L') := ⟨Nat.le_trans hS.1 hzz, fun q h1 h2 => by
      rw [hkp q (Nat.lt_of_lt_of_le h1 hS.1) (fun z => h2 (hfree q z))]
      exact hS.2.1 q h1 h2, fun q hq => by
      rcases List.mem_append.mp hq with h | h
      · exact hS.2.2 q h
      · exact hfree _ (hL q h)⟩
  have hno : ∀ (k : Nat) (q : Nat × va_E), wr[k]? = some q → ¬ va_A (px_ws ad tA ids G σ) H.size q.1 := fun k q hq hv => by
    rcases hv with ⟨k2, e2, hv⟩ | hv
    · obtain ⟨i, hi, _, e3⟩ := px_ws_m hv
      exact hdj k q hq i hi e3
    · exact absurd ((hwr k q hq).lt) (Nat.not_lt.mpr hv)
  have hwr' : va_P D classes wr T'.heap := hwr.kept fun k q hq => hkp q.1 ((hwr k q hq).lt) (hno k q hq)
  have hd1 := px_D_dA hD'
  obtain ⟨t2, a1, b1⟩ := kk T'.heap (locs ++ L') ad' had (by rw [e1]; exact hP') hwr' hS' hcl' ⟨hd1.1, fun i hi => hfree _ (hd1.2 i hi)⟩ (fun k q hq i hi z => hno k q hq (by rw [z]; exact hd1.2 i hi)) T' rfl X'
  cases hv
  exact ⟨t2, stp t2 a1, b1⟩
end PXZ
def ls_sP : List pxK := [some (.inr none), some (.inr none), some (.inr none), some (.inr none), some (.inr none), some (.inr none), some (.inr none), none, none, none, none, none, none]
def ls_sM : List pxK := [none, some (.inr none), none, some (.inr none), some (.inr none), some (.inr none), some (.inr none), some (.inr none), some (.inr none), some (.inr none), some (.inr none), some (.inr none), some (.inr none), some (.inr none), some (.inr none), some (.inr none), none, none, none, none, none, none, none, none, none, none, some (.inr none), some (.inr none), some (.inr none), some (.inr none), some (.inr none), some (.inr none), none, none, some (.inr none), some (.inr none), some (.inr none), some (.inr none), none, some (.inr none), none]
def ls_vP : List Value := [.null, .null, .null, .null, .null, .null, .null, .int 0, .int 0, .int 0, .int 0, .int 0, .int 0]
def ls_vM : List Value := [.int 0, .null, .int 0, .null, .null, .null, .null, .null, .null, .null, .null, .null, .null, .null, .null, .null, .int 0, .int 0, .int 0, .int 0, .int 0, .int 0, .int 0, .int 0, .int 0, .int 0, .null, .null, .null, .null, .null, .null, .int 0, .int 0, .null, .null, .null, .null, .int 0, .null, .int 0]
theorem ls_fP (j : Nat) (hj : j < 13) : defaultValue (px_ty 0 j) = vp_V ls_vP j := by
  match j, hj with
    | 0, _ => rfl
    | 1, _ => rfl
    | 2, _ => rfl
    | 3, _ => rfl
    | 4, _ => rfl
    | 5, _ => rfl
    | 6, _ => rfl
    | 7, _ => rfl
    | 8, _ => rfl
    | 9, _ => rfl
    | 10, _ => rfl
    | 11, _ => rfl
    | 12, _ => rfl
    | n + 13, h => exact absurd h (by show ¬ n + 13 < 13; omega)
theorem ls_fM (j : Nat) (hj : j < 41) : defaultValue (px_ty 6 j) = vp_V ls_vM j := by
  match j, hj with
    | 0, _ => rfl
    | 1, _ => rfl
    | 2, _ => rfl
    | 3, _ => rfl
    | 4, _ => rfl
    | 5, _ => rfl
    | 6, _ => rfl
    | 7, _ => rfl
    | 8, _ => rfl
    | 9, _ => rfl
    | 10, _ => rfl
    | 11, _ => rfl
    | 12, _ => rfl
    | 13, _ => rfl
    | 14, _ => rfl
    | 15, _ => rfl
    | 16, _ => rfl
    | 17, _ => rfl
    | 18, _ => rfl
    | 19, _ => rfl
    | 20, _ => rfl
    | 21, _ => rfl
    | 22, _ => rfl
    | 23, _ => rfl
    | 24, _ => rfl
    | 25, _ => rfl
    | 26, _ => rfl
    | 27, _ => rfl
    | 28, _ => rfl
    | 29, _ => rfl
    | 30, _ => rfl
    | 31, _ => rfl
    | 32, _ => rfl
    | 33, _ => rfl
    | 34, _ => rfl
    | 35, _ => rfl
    | 36, _ => rfl
    | 37, _ => rfl
    | 38, _ => rfl
    | 39, _ => rfl
    | 40, _ => rfl
    | n + 41, h => exact absurd h (by show ¬ n + 41 < 41; omega)
theorem ls_clo {ci : Nat} {sl : List pxK} {G : pxG} {σ : pxS} (h : ∀ q ∈ sl, q = none ∨ q = some (.inr none)) : px_clo [(0, 0, 0)] (px_gs G (0, 0, 0) (.inr (.inr (ci, sl)))) σ :=
  px_clo_new (ids := []) (i := (0, 0, 0)) (c := .inr (.inr (ci, sl))) List.not_mem_nil (fun i hi => absurd hi List.not_mem_nil) (fun k q hq => h q (List.mem_of_getElem? hq))
theorem ls_dA {A : Nat → Prop} {a : Nat} (h : A a) : px_dA A (fun _ => a) [(0, 0, 0)] := by
  refine ⟨fun k j x y hk hj _ => ?_, fun i _ => h⟩
  have h1 := (List.getElem?_eq_some_iff.mp hk).1
  have h2 := (List.getElem?_eq_some_iff.mp hj).1
  simp only [List.length_singleton] at h1 h2
  omega
theorem ls_wsP (a : Nat) (tA : Nat → ClassId) : px_ws (fun _ => a) tA [(0, 0, 0)] (px_gs cG (0, 0, 0) (.inr (.inr (0, ls_sP)))) (fun _ _ => 0) = [(a, .inr (0, ls_vP))] := by
  show [(a, px_ce (fun _ => a) tA (px_gs cG (0, 0, 0) (.inr (.inr (0, ls_sP))) (0, 0, 0)) (fun _ => 0))] = _
  rw [px_gs_s]
  rfl
theorem ls_wsM (a : Nat) (tA : Nat → ClassId) : px_ws (fun _ => a) tA [(0, 0, 0)] (px_gs mG (0, 0, 0) (.inr (.inr (6, ls_sM)))) (fun _ _ => 0) = [(a, .inr (6, ls_vM))] := by
  have e : px_fs (fun _ => a) ls_sM (fun _ => 0) = ls_vM := by
    simp only [px_fs, ls_sM, ls_vM, List.mapIdx_cons, List.mapIdx_nil]
    rfl
  show [(a, px_ce (fun _ => a) tA (px_gs mG (0, 0, 0) (.inr (.inr (6, ls_sM))) (0, 0, 0)) (fun _ => 0))] = _
  rw [px_gs_s]
  show [(a, (Sum.inr (6, px_fs (fun _ => a) ls_sM (fun _ => 0)) : va_E))] = _
  rw [e]
/-- both constructors, and what they leave -/
theorem ls_init (l : Launch) : ∃ (ci mi : List pxI) (σ μ : pxS), ci = lw_ci ∧ mi = lw_mi ∧ dInv σ μ ∧
    pm l y_PR_init c_PR_init 2 none (px_Rm 8 476 9039) [.inr (some (0, 0, 0))] [(0, 0, 0)] (px_gs cG (0, 0, 0) (.inr (.inr (0, ls_sP)))) (fun _ _ => 0) (px_r none ci cG σ) ∧
    pm l y_Mo_init c_Mo_init 1 none (px_Rm 4 25 12324) [.inr (some (0, 0, 0))] [(0, 0, 0)] (px_gs mG (0, 0, 0) (.inr (.inr (6, ls_sM)))) (fun _ _ => 0) (px_r none mi mG μ) := by
  obtain ⟨σ1, σ4, μ', i1, i2, i3, i4, i5, i6⟩ := dInit
  have kP := k_PR_init (l := l) (σ2 := px_up σ1 (0, 0, 0) 6 0) (σ3 := px_up (px_up σ1 (0, 0, 0) 6 0) (0, 0, 0) 9 (-1)) (fun _ _ => rfl) i1 rfl rfl i3 i2 i4
  have kM := k_Mo_init (l := l) (ids := [(0, 0, 0)]) (G := mG) rfl (fun a h => by simp at h) (fun _ _ => rfl) i5
  refine ⟨lw_ci, lw_mi, px_pl σ4 23, μ', rfl, rfl, i6, ?_, ?_⟩
  · unfold lw_ci ls_sP
    exact kP
  · unfold lw_mi ls_sM
    exact kM
