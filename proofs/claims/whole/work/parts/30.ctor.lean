/-! the constructors: what they make, and the numbers at the start (laid by wip/whole/gen_ctor.py) -/
abbrev px_Rm (d mc ms : Nat) : Room := { frames := d, cells := mc, slots := ms, locals := 40 * d }
section PXK
variable {l : Launch} {R : Room} {y : MethodName} {cc : ByteArray} {nL : Nat} {ret : Option FieldType} {pc : Nat} {L : List (Nat × pxV)} {st : List pxV} {ids : List pxI} {G : pxG} {σ : pxS} {k n k2 n2 : Nat} {Rt : Option pxV → List pxI → pxG → pxS → Prop}
theorem pw_nI {c : Int32} {N : Nat} (i : pxI) (hd : decode cc pc = .ok (.newarray .int, 2)) (hc : ¬ c < 0) (hN : c.toNatClampNeg = N) (hby : N ≤ 100000000) (hi : i ∉ ids) (hz : ∀ j, σ i j = 0) (hG : G i = .inl (0, N)) (ek : k + 1 = k2) (en : n + N = n2) (hk : k2 ≤ R.cells) (hn : n2 ≤ R.slots)
    (h : pw l R y cc nL ret (pc + 2) L (.inr (some i) :: st) (ids ++ [i]) G σ k2 n2 Rt) : pw l R y cc nL ret pc L (.inl c :: st) ids G σ k n Rt := by
  subst ek en
  refine pw_newa (t := 0) i hd rfl lt_int (fun _ => rfl) (fun C h => by cases h) rfl hc hN (by show N * 4 ≤ _; omega) hi hz hk hn ?_
  rw [px_gs_id hG]
  exact h
theorem pw_nB {c : Int32} {N : Nat} (i : pxI) (hd : decode cc pc = .ok (.newarray .byte, 2)) (hc : ¬ c < 0) (hN : c.toNatClampNeg = N) (hby : N ≤ 100000000) (hi : i ∉ ids) (hz : ∀ j, σ i j = 0) (hG : G i = .inl (1, N)) (ek : k + 1 = k2) (en : n + N = n2) (hk : k2 ≤ R.cells) (hn : n2 ≤ R.slots)
    (h : pw l R y cc nL ret (pc + 2) L (.inr (some i) :: st) (ids ++ [i]) G σ k2 n2 Rt) : pw l R y cc nL ret pc L (.inl c :: st) ids G σ k n Rt := by
  subst ek en
  refine pw_newa (t := 1) i hd rfl lt_byte (fun _ => rfl) (fun C h => by cases h) rfl hc hN (by show N * 1 ≤ _; omega) hi hz hk hn ?_
  rw [px_gs_id hG]
  exact h
theorem pw_nZ {c : Int32} {N : Nat} (i : pxI) (hd : decode cc pc = .ok (.newarray .boolean, 2)) (hc : ¬ c < 0) (hN : c.toNatClampNeg = N) (hby : N ≤ 100000000) (hi : i ∉ ids) (hz : ∀ j, σ i j = 0) (hG : G i = .inl (2, N)) (ek : k + 1 = k2) (en : n + N = n2) (hk : k2 ≤ R.cells) (hn : n2 ≤ R.slots)
    (h : pw l R y cc nL ret (pc + 2) L (.inr (some i) :: st) (ids ++ [i]) G σ k2 n2 Rt) : pw l R y cc nL ret pc L (.inl c :: st) ids G σ k n Rt := by
  subst ek en
  refine pw_newa (t := 2) i hd rfl lt_boolean (fun _ => rfl) (fun C h => by cases h) rfl hc hN (by show N * 1 ≤ _; omega) hi hz hk hn ?_
  rw [px_gs_id hG]
  exact h
theorem pw_pS {idx ci kf : Nat} {sl : List pxK} {i r : pxI} {ty : FieldType} {fin : Bool} (sl' : List pxK) (hd : decode cc pc = .ok (.putfield idx, 3)) (hf : px_FX y.cls idx ci kf ty fin) (hin : y.name = "<init>") (hl : kf < sl.length) (hsl : sl.set kf (some (.inr (some r))) = sl') (hn : ∀ a : Nat, narrow ty (.ref a) = .ref a ∧ fits ty (.ref a) = true)
    (h : pw l R y cc nL ret (pc + 3) L st ids (px_gs G i (.inr (.inr (ci, sl')))) σ k n Rt) : pw l R y cc nL ret pc L (.inr (some r) :: .inr (some i) :: st) ids (px_gs G i (.inr (.inr (ci, sl)))) σ k n Rt := by
  refine pw_putS hd hf hin px_gs_s hl hsl hn ?_
  rw [px_gs_gs]
  exact h
/-- a plan's field, by its number -/
theorem pw_pP {idx ci kf p : Nat} {sl : List pxK} {i : pxI} {ty : FieldType} {fin : Bool} {σ' : pxS} (x : Int32) (sl' : List pxK) (hd : decode cc pc = .ok (.putfield idx, 3)) (hf : px_FX y.cls idx ci kf ty fin) (hin : y.name = "<init>") (hl : kf < sl.length) (hsl : sl.set kf (some (.inl 1)) = sl') (hp : x.toNatClampNeg = p) (hn : ∀ a : Nat, narrow ty (.ref a) = .ref a ∧ fits ty (.ref a) = true) (hσ : σ' = px_up σ i kf x)
    (h : pw l R y cc nL ret (pc + 3) L st ids (px_gs G i (.inr (.inr (ci, sl')))) σ' k n Rt) : pw l R y cc nL ret pc L (.inr (some (1, p, 0)) :: .inr (some i) :: st) ids (px_gs G i (.inr (.inr (ci, sl)))) σ k n Rt := by
  refine pw_putG (some (.inl 1)) x hd hf hin px_gs_s hl hsl ?_ (fun ad => hn _) hσ ?_
  · show (Sum.inr (some (1, x.toNatClampNeg, 0)) : pxV) = _
    rw [hp]
  · rw [px_gs_gs]
    exact h
theorem pw_cI {idx N : Nat} {y' : MethodName} {cc' : ByteArray} {nL' : Nat} {R' : Room} {st0 : List pxV} {ids2 : List pxI} {G2 : pxG} {σ2 : pxS} (o : pxI) (xs st : List pxV)
    (hd : decode cc pc = .ok (.invokespecial idx, 3)) (hw : px_yI y.cls idx y' cc' nL' N) (hst : st0 = xs.reverse ++ .inr (some o) :: st) (hN : xs.length = N) (h8 : st.length ≤ 8) (hR : R'.frames + 1 ≤ R.frames ∧ 8 + (nL' + 11) + R'.locals ≤ R.locals) (ek : k + R'.cells = k2) (en : n + R'.slots = n2) (hk : k2 ≤ R.cells ∧ n2 ≤ R.slots)
    (hm : pm l y' cc' nL' none R' (.inr (some o) :: xs) ids G σ (px_r none ids2 G2 σ2)) (h : pw l R y cc nL ret (pc + 3) L st ids2 G2 σ2 k2 n2 Rt) : pw l R y cc nL ret pc L st0 ids G σ k n Rt := by
  subst ek en
  exact pw_callI o xs st hd hw hst hN h8 hR hk hm (px_k0 h)
theorem pw_cVm {idx ci N d' : Nat} {y' : MethodName} {cc' : ByteArray} {nL' : Nat} {ret' : Option FieldType} {sl : List pxK} {st0 : List pxV} {σ2 : pxS} (o : pxI) (xs st : List pxV) (hd : decode cc pc = .ok (.invokevirtual idx, 3)) (hw : px_yV y.cls idx ci y' cc' nL' ret' N) (hG : G o = .inr (.inr (ci, sl))) (hst : st0 = xs.reverse ++ .inr (some o) :: st) (hN : xs.length = N) (h8 : st.length ≤ 8) (hR : d' + 1 ≤ R.frames ∧ 8 + (nL' + 11) + 40 * d' ≤ R.locals) (hk : k ≤ R.cells ∧ n ≤ R.slots)
    (hm : pm l y' cc' nL' ret' (px_R d') (.inr (some o) :: xs) ids G σ (px_r none ids G σ2)) (h : pw l R y cc nL ret (pc + 3) L st ids G σ2 k n Rt) : pw l R y cc nL ret pc L st0 ids G σ k n Rt :=
  pw_callV (R' := px_R d') xs hd hw.1 hw.2.1 hw.2.2.1 hw.2.2.2 hG hst hN h8 hR hk hm (px_k0 h)
theorem pw_cSm {idx N d' : Nat} {y' : MethodName} {cc' : ByteArray} {nL' : Nat} {ret' : Option FieldType} {st0 : List pxV} {σ2 : pxS} {r : Int32} (xs st : List pxV) (hd : decode cc pc = .ok (.invokestatic idx, 3)) (hw : px_yS y.cls idx y' cc' nL' ret' N) (hst : st0 = xs.reverse ++ st) (hN : xs.length = N) (h8 : st.length ≤ 8) (hR : d' + 1 ≤ R.frames ∧ 8 + (nL' + 11) + 40 * d' ≤ R.locals) (hk : k ≤ R.cells ∧ n ≤ R.slots)
    (hm : pm l y' cc' nL' ret' (px_R d') xs ids G σ (px_r (some (.inl r)) ids G σ2)) (h : pw l R y cc nL ret (pc + 3) L (.inl r :: st) ids G σ2 k n Rt) : pw l R y cc nL ret pc L st0 ids G σ k n Rt :=
  pw_callS (R' := px_R d') xs hd hw.1 hw.2 hst hN h8 hR hk hm (px_k1 h)
theorem pw_Gid {i : pxI} {c : pxC} (e : G i = c) (h : pw l R y cc nL ret pc L st ids G σ k n Rt) : pw l R y cc nL ret pc L st ids (px_gs G i c) σ k n Rt := by
  rw [px_gs_id e]
  exact h
end PXK
theorem px_rok1 (t : FieldType) : ∀ a : Nat, narrow (.array t) (.ref a) = .ref a ∧ fits (.array t) (.ref a) = true := fun _ => ⟨rfl, rfl⟩
theorem px_rok2 (C : String) : ∀ a : Nat, narrow (.object C) (.ref a) = .ref a ∧ fits (.object C) (.ref a) = true := fun _ => ⟨rfl, rfl⟩
theorem pw_kn {l : Launch} {R : Room} {y : MethodName} {cc : ByteArray} {nL : Nat} {ret : Option FieldType} {pc : Nat} {L : List (Nat × pxV)} {st : List pxV} {ids : List pxI} {G : pxG} {σ : pxS} {k n k2 n2 : Nat} {Rt : Option pxV → List pxI → pxG → pxS → Prop} (ek : k2 = k) (en : n2 = n) (h : pw l R y cc nL ret pc L st ids G σ k2 n2 Rt) : pw l R y cc nL ret pc L st ids G σ k n Rt := by
  subst ek en
  exact h
theorem raw_Ra : ∀ j, j < 13 → (([none, none, none, none, none, none, none, none, none, none, none, none, none] : List pxK)[j]? = some none ∧ defaultValue (px_ty 3 j) = .int 0) ∨ (([none, none, none, none, none, none, none, none, none, none, none, none, none] : List pxK)[j]? = some (some (.inr none)) ∧ defaultValue (px_ty 3 j) = .null) := fun j hj => match j, hj with
  | 0, _ => Or.inl ⟨rfl, rfl⟩
  | 1, _ => Or.inl ⟨rfl, rfl⟩
  | 2, _ => Or.inl ⟨rfl, rfl⟩
  | 3, _ => Or.inl ⟨rfl, rfl⟩
  | 4, _ => Or.inl ⟨rfl, rfl⟩
  | 5, _ => Or.inl ⟨rfl, rfl⟩
  | 6, _ => Or.inl ⟨rfl, rfl⟩
  | 7, _ => Or.inl ⟨rfl, rfl⟩
  | 8, _ => Or.inl ⟨rfl, rfl⟩
  | 9, _ => Or.inl ⟨rfl, rfl⟩
  | 10, _ => Or.inl ⟨rfl, rfl⟩
  | 11, _ => Or.inl ⟨rfl, rfl⟩
  | 12, _ => Or.inl ⟨rfl, rfl⟩
  | n + 13, h => absurd h (by omega)
theorem raw_Qu : ∀ j, j < 3 → (([some (.inr none), none, none] : List pxK)[j]? = some none ∧ defaultValue (px_ty 4 j) = .int 0) ∨ (([some (.inr none), none, none] : List pxK)[j]? = some (some (.inr none)) ∧ defaultValue (px_ty 4 j) = .null) := fun j hj => match j, hj with
  | 0, _ => Or.inr ⟨rfl, rfl⟩
  | 1, _ => Or.inl ⟨rfl, rfl⟩
  | 2, _ => Or.inl ⟨rfl, rfl⟩
  | n + 3, h => absurd h (by omega)
theorem raw_Pl : ∀ j, j < 18 → (([none, none, none, some (.inr none), some (.inr none), some (.inr none), some (.inr none), some (.inr none), some (.inr none), some (.inr none), some (.inr none), some (.inr none), some (.inr none), some (.inr none), some (.inr none), some (.inr none), some (.inr none), some (.inr none)] : List pxK)[j]? = some none ∧ defaultValue (px_ty 1 j) = .int 0) ∨ (([none, none, none, some (.inr none), some (.inr none), some (.inr none), some (.inr none), some (.inr none), some (.inr none), some (.inr none), some (.inr none), some (.inr none), some (.inr none), some (.inr none), some (.inr none), some (.inr none), some (.inr none), some (.inr none)] : List pxK)[j]? = some (some (.inr none)) ∧ defaultValue (px_ty 1 j) = .null) := fun j hj => match j, hj with
  | 0, _ => Or.inl ⟨rfl, rfl⟩
  | 1, _ => Or.inl ⟨rfl, rfl⟩
  | 2, _ => Or.inl ⟨rfl, rfl⟩
  | 3, _ => Or.inr ⟨rfl, rfl⟩
  | 4, _ => Or.inr ⟨rfl, rfl⟩
  | 5, _ => Or.inr ⟨rfl, rfl⟩
  | 6, _ => Or.inr ⟨rfl, rfl⟩
  | 7, _ => Or.inr ⟨rfl, rfl⟩
  | 8, _ => Or.inr ⟨rfl, rfl⟩
  | 9, _ => Or.inr ⟨rfl, rfl⟩
  | 10, _ => Or.inr ⟨rfl, rfl⟩
  | 11, _ => Or.inr ⟨rfl, rfl⟩
  | 12, _ => Or.inr ⟨rfl, rfl⟩
  | 13, _ => Or.inr ⟨rfl, rfl⟩
  | 14, _ => Or.inr ⟨rfl, rfl⟩
  | 15, _ => Or.inr ⟨rfl, rfl⟩
  | 16, _ => Or.inr ⟨rfl, rfl⟩
  | 17, _ => Or.inr ⟨rfl, rfl⟩
  | n + 18, h => absurd h (by omega)
theorem raw_Bo : ∀ j, j < 11 → (([some (.inr none), some (.inr none), some (.inr none), some (.inr none), some (.inr none), none, none, none, none, none, none] : List pxK)[j]? = some none ∧ defaultValue (px_ty 2 j) = .int 0) ∨ (([some (.inr none), some (.inr none), some (.inr none), some (.inr none), some (.inr none), none, none, none, none, none, none] : List pxK)[j]? = some (some (.inr none)) ∧ defaultValue (px_ty 2 j) = .null) := fun j hj => match j, hj with
  | 0, _ => Or.inr ⟨rfl, rfl⟩
  | 1, _ => Or.inr ⟨rfl, rfl⟩
  | 2, _ => Or.inr ⟨rfl, rfl⟩
  | 3, _ => Or.inr ⟨rfl, rfl⟩
  | 4, _ => Or.inr ⟨rfl, rfl⟩
  | 5, _ => Or.inl ⟨rfl, rfl⟩
  | 6, _ => Or.inl ⟨rfl, rfl⟩
  | 7, _ => Or.inl ⟨rfl, rfl⟩
  | 8, _ => Or.inl ⟨rfl, rfl⟩
  | 9, _ => Or.inl ⟨rfl, rfl⟩
  | 10, _ => Or.inl ⟨rfl, rfl⟩
  | n + 11, h => absurd h (by omega)
theorem raw_Re : ∀ j, j < 15 → (([some (.inr none), none, none, some (.inr none), some (.inr none), some (.inr none), some (.inr none), none, some (.inr none), none, none, none, none, none, none] : List pxK)[j]? = some none ∧ defaultValue (px_ty 5 j) = .int 0) ∨ (([some (.inr none), none, none, some (.inr none), some (.inr none), some (.inr none), some (.inr none), none, some (.inr none), none, none, none, none, none, none] : List pxK)[j]? = some (some (.inr none)) ∧ defaultValue (px_ty 5 j) = .null) := fun j hj => match j, hj with
  | 0, _ => Or.inr ⟨rfl, rfl⟩
  | 1, _ => Or.inl ⟨rfl, rfl⟩
  | 2, _ => Or.inl ⟨rfl, rfl⟩
  | 3, _ => Or.inr ⟨rfl, rfl⟩
  | 4, _ => Or.inr ⟨rfl, rfl⟩
  | 5, _ => Or.inr ⟨rfl, rfl⟩
  | 6, _ => Or.inr ⟨rfl, rfl⟩
  | 7, _ => Or.inl ⟨rfl, rfl⟩
  | 8, _ => Or.inr ⟨rfl, rfl⟩
  | 9, _ => Or.inl ⟨rfl, rfl⟩
  | 10, _ => Or.inl ⟨rfl, rfl⟩
  | 11, _ => Or.inl ⟨rfl, rfl⟩
  | 12, _ => Or.inl ⟨rfl, rfl⟩
  | 13, _ => Or.inl ⟨rfl, rfl⟩
  | 14, _ => Or.inl ⟨rfl, rfl⟩
  | n + 15, h => absurd h (by omega)
set_option maxRecDepth 100000 in
set_option maxHeartbeats 4000000 in
theorem k_Ra_init {l : Launch} {ids : List pxI} {G : pxG} {σ : pxS} {i : pxI} : pm l y_Ra_init c_Ra_init 1 none (px_Rm 1 0 0) [.inr (some i)] ids G σ (px_r none ids G σ) := by
  refine pm_ofF (by decide +kernel) (Nat.le_of_ble_eq_true rfl) ?_
  refine pw_aload_n 0 (px_at td_Ra_init 0 rfl) rfl rfl ?_
  refine pw_objinit (px_at td_Ra_init 1 rfl) lo_Ra lo_1 lo_2 (by decide) (Nat.le_of_ble_eq_true rfl) ?_
  exact pw_vret (px_at td_Ra_init 2 rfl) rfl (by decide) (by decide) ⟨rfl, rfl, rfl, rfl⟩
set_option maxRecDepth 100000 in
set_option maxHeartbeats 4000000 in
theorem k_Qu_init {l : Launch} {ids : List pxI} {G : pxG} {σ : pxS} {k w : Nat} (hG : G (4, k, w) = cG (4, k, w)) (hA : G (10, k, w) = cG (10, k, w)) (hf : (10, k, w) ∉ ids) (hz : ∀ q, σ (10, k, w) q = 0) : pm l y_Qu_init c_Qu_init 1 none (px_Rm 1 1 12) [.inr (some (4, k, w))] ids (px_gs G (4, k, w) (.inr (.inr (4, [some (.inr none), none, none])))) σ (px_r none (ids ++ [(10, k, w)]) G σ) := by
  refine pm_ofF (by decide +kernel) (Nat.le_of_ble_eq_true rfl) ?_
  refine pw_aload_n 0 (px_at td_Qu_init 0 rfl) rfl rfl ?_
  refine pw_objinit (px_at td_Qu_init 1 rfl) lo_Qu lo_1 lo_2 (by decide) (Nat.le_of_ble_eq_true rfl) ?_
  refine pw_aload_n 0 (px_at td_Qu_init 2 rfl) rfl rfl ?_
  refine pw_bipush (v := 12) (px_at td_Qu_init 3 rfl) (by decide) ?_
  refine pw_nI (N := 12) (10, k, w) (px_at td_Qu_init 4 rfl) (by decide) (by decide +kernel) (by decide) hf (fun _ => hz _) ((px_gs_n (by simp)).trans hA) rfl rfl (by decide) (by decide) ?_
  refine pw_pS [some (.inr (some (10, k, w))), none, none] (px_at td_Qu_init 5 rfl) lx_Qu_9 rfl (Nat.le_of_ble_eq_true rfl) rfl (px_rok1 _) ?_
  refine pw_Gid hG ?_
  exact pw_vret (px_at td_Qu_init 6 rfl) rfl (by decide) (by decide) ⟨rfl, rfl, rfl, rfl⟩
set_option maxRecDepth 100000 in
set_option maxHeartbeats 4000000 in
theorem k_Pl_init {l : Launch} {ids : List pxI} {G : pxG} {σ : pxS} {p : Nat} (hG : ∀ i : pxI, i.1 = 1 ∨ i.1 = 8 → i.2.1 = p → G i = cG i) (hf : ∀ a, (8, p, a) ∉ ids) (hz : ∀ a q, σ (8, p, a) q = 0) : pm l y_Pl_init c_Pl_init 1 none (px_Rm 1 15 212) [.inr (some (1, p, 0))] ids (px_gs G (1, p, 0) (.inr (.inr (1, [none, none, none, some (.inr none), some (.inr none), some (.inr none), some (.inr none), some (.inr none), some (.inr none), some (.inr none), some (.inr none), some (.inr none), some (.inr none), some (.inr none), some (.inr none), some (.inr none), some (.inr none), some (.inr none)])))) σ (px_r none (ids ++ [(8, p, 0)] ++ [(8, p, 1)] ++ [(8, p, 2)] ++ [(8, p, 3)] ++ [(8, p, 4)] ++ [(8, p, 5)] ++ [(8, p, 6)] ++ [(8, p, 7)] ++ [(8, p, 8)] ++ [(8, p, 9)] ++ [(8, p, 10)] ++ [(8, p, 11)] ++ [(8, p, 12)] ++ [(8, p, 13)] ++ [(8, p, 14)]) G σ) := by
  refine pm_ofF (by decide +kernel) (Nat.le_of_ble_eq_true rfl) ?_
  refine pw_aload_n 0 (px_at td_Pl_init 0 rfl) rfl rfl ?_
  refine pw_objinit (px_at td_Pl_init 1 rfl) lo_Pl lo_1 lo_2 (by decide) (Nat.le_of_ble_eq_true rfl) ?_
  refine pw_aload_n 0 (px_at td_Pl_init 2 rfl) rfl rfl ?_
  refine pw_bipush (v := 12) (px_at td_Pl_init 3 rfl) (by decide) ?_
  refine pw_nI (N := 12) (8, p, 0) (px_at td_Pl_init 4 rfl) (by decide) (by decide +kernel) (by decide) (by simp [hf]) (fun _ => hz _ _) ((px_gs_n (by simp)).trans (hG (8, p, 0) (Or.inr rfl) rfl)) rfl rfl (by decide) (by decide) ?_
  refine pw_pS [none, none, none, some (.inr (some (8, p, 0))), some (.inr none), some (.inr none), some (.inr none), some (.inr none), some (.inr none), some (.inr none), some (.inr none), some (.inr none), some (.inr none), some (.inr none), some (.inr none), some (.inr none), some (.inr none), some (.inr none)] (px_at td_Pl_init 5 rfl) lx_Pl_9 rfl (Nat.le_of_ble_eq_true rfl) rfl (px_rok1 _) ?_
  refine pw_aload_n 0 (px_at td_Pl_init 6 rfl) rfl rfl ?_
  refine pw_bipush (v := 12) (px_at td_Pl_init 7 rfl) (by decide) ?_
  refine pw_nI (N := 12) (8, p, 1) (px_at td_Pl_init 8 rfl) (by decide) (by decide +kernel) (by decide) (by simp [hf]) (fun _ => hz _ _) ((px_gs_n (by simp)).trans (hG (8, p, 1) (Or.inr rfl) rfl)) rfl rfl (by decide) (by decide) ?_
  refine pw_pS [none, none, none, some (.inr (some (8, p, 0))), some (.inr (some (8, p, 1))), some (.inr none), some (.inr none), some (.inr none), some (.inr none), some (.inr none), some (.inr none), some (.inr none), some (.inr none), some (.inr none), some (.inr none), some (.inr none), some (.inr none), some (.inr none)] (px_at td_Pl_init 9 rfl) lx_Pl_15 rfl (Nat.le_of_ble_eq_true rfl) rfl (px_rok1 _) ?_
  refine pw_aload_n 0 (px_at td_Pl_init 10 rfl) rfl rfl ?_
  refine pw_bipush (v := 12) (px_at td_Pl_init 11 rfl) (by decide) ?_
  refine pw_nI (N := 12) (8, p, 2) (px_at td_Pl_init 12 rfl) (by decide) (by decide +kernel) (by decide) (by simp [hf]) (fun _ => hz _ _) ((px_gs_n (by simp)).trans (hG (8, p, 2) (Or.inr rfl) rfl)) rfl rfl (by decide) (by decide) ?_
  refine pw_pS [none, none, none, some (.inr (some (8, p, 0))), some (.inr (some (8, p, 1))), some (.inr (some (8, p, 2))), some (.inr none), some (.inr none), some (.inr none), some (.inr none), some (.inr none), some (.inr none), some (.inr none), some (.inr none), some (.inr none), some (.inr none), some (.inr none), some (.inr none)] (px_at td_Pl_init 13 rfl) lx_Pl_18 rfl (Nat.le_of_ble_eq_true rfl) rfl (px_rok1 _) ?_
  refine pw_aload_n 0 (px_at td_Pl_init 14 rfl) rfl rfl ?_
  refine pw_bipush (v := 12) (px_at td_Pl_init 15 rfl) (by decide) ?_
  refine pw_nI (N := 12) (8, p, 3) (px_at td_Pl_init 16 rfl) (by decide) (by decide +kernel) (by decide) (by simp [hf]) (fun _ => hz _ _) ((px_gs_n (by simp)).trans (hG (8, p, 3) (Or.inr rfl) rfl)) rfl rfl (by decide) (by decide) ?_
  refine pw_pS [none, none, none, some (.inr (some (8, p, 0))), some (.inr (some (8, p, 1))), some (.inr (some (8, p, 2))), some (.inr (some (8, p, 3))), some (.inr none), some (.inr none), some (.inr none), some (.inr none), some (.inr none), some (.inr none), some (.inr none), some (.inr none), some (.inr none), some (.inr none), some (.inr none)] (px_at td_Pl_init 17 rfl) lx_Pl_21 rfl (Nat.le_of_ble_eq_true rfl) rfl (px_rok1 _) ?_
  refine pw_aload_n 0 (px_at td_Pl_init 18 rfl) rfl rfl ?_
  refine pw_bipush (v := 12) (px_at td_Pl_init 19 rfl) (by decide) ?_
  refine pw_nI (N := 12) (8, p, 4) (px_at td_Pl_init 20 rfl) (by decide) (by decide +kernel) (by decide) (by simp [hf]) (fun _ => hz _ _) ((px_gs_n (by simp)).trans (hG (8, p, 4) (Or.inr rfl) rfl)) rfl rfl (by decide) (by decide) ?_
  refine pw_pS [none, none, none, some (.inr (some (8, p, 0))), some (.inr (some (8, p, 1))), some (.inr (some (8, p, 2))), some (.inr (some (8, p, 3))), some (.inr (some (8, p, 4))), some (.inr none), some (.inr none), some (.inr none), some (.inr none), some (.inr none), some (.inr none), some (.inr none), some (.inr none), some (.inr none), some (.inr none)] (px_at td_Pl_init 21 rfl) lx_Pl_24 rfl (Nat.le_of_ble_eq_true rfl) rfl (px_rok1 _) ?_
  refine pw_aload_n 0 (px_at td_Pl_init 22 rfl) rfl rfl ?_
  refine pw_bipush (v := 12) (px_at td_Pl_init 23 rfl) (by decide) ?_
  refine pw_nI (N := 12) (8, p, 5) (px_at td_Pl_init 24 rfl) (by decide) (by decide +kernel) (by decide) (by simp [hf]) (fun _ => hz _ _) ((px_gs_n (by simp)).trans (hG (8, p, 5) (Or.inr rfl) rfl)) rfl rfl (by decide) (by decide) ?_
  refine pw_pS [none, none, none, some (.inr (some (8, p, 0))), some (.inr (some (8, p, 1))), some (.inr (some (8, p, 2))), some (.inr (some (8, p, 3))), some (.inr (some (8, p, 4))), some (.inr (some (8, p, 5))), some (.inr none), some (.inr none), some (.inr none), some (.inr none), some (.inr none), some (.inr none), some (.inr none), some (.inr none), some (.inr none)] (px_at td_Pl_init 25 rfl) lx_Pl_27 rfl (Nat.le_of_ble_eq_true rfl) rfl (px_rok1 _) ?_
  refine pw_aload_n 0 (px_at td_Pl_init 26 rfl) rfl rfl ?_
  refine pw_bipush (v := 12) (px_at td_Pl_init 27 rfl) (by decide) ?_
  refine pw_nI (N := 12) (8, p, 6) (px_at td_Pl_init 28 rfl) (by decide) (by decide +kernel) (by decide) (by simp [hf]) (fun _ => hz _ _) ((px_gs_n (by simp)).trans (hG (8, p, 6) (Or.inr rfl) rfl)) rfl rfl (by decide) (by decide) ?_
  refine pw_pS [none, none, none, some (.inr (some (8, p, 0))), some (.inr (some (8, p, 1))), some (.inr (some (8, p, 2))), some (.inr (some (8, p, 3))), some (.inr (some (8, p, 4))), some (.inr (some (8, p, 5))), some (.inr (some (8, p, 6))), some (.inr none), some (.inr none), some (.inr none), some (.inr none), some (.inr none), some (.inr none), some (.inr none), some (.inr none)] (px_at td_Pl_init 29 rfl) lx_Pl_30 rfl (Nat.le_of_ble_eq_true rfl) rfl (px_rok1 _) ?_
  refine pw_aload_n 0 (px_at td_Pl_init 30 rfl) rfl rfl ?_
  refine pw_bipush (v := 12) (px_at td_Pl_init 31 rfl) (by decide) ?_
  refine pw_nI (N := 12) (8, p, 7) (px_at td_Pl_init 32 rfl) (by decide) (by decide +kernel) (by decide) (by simp [hf]) (fun _ => hz _ _) ((px_gs_n (by simp)).trans (hG (8, p, 7) (Or.inr rfl) rfl)) rfl rfl (by decide) (by decide) ?_
  refine pw_pS [none, none, none, some (.inr (some (8, p, 0))), some (.inr (some (8, p, 1))), some (.inr (some (8, p, 2))), some (.inr (some (8, p, 3))), some (.inr (some (8, p, 4))), some (.inr (some (8, p, 5))), some (.inr (some (8, p, 6))), some (.inr (some (8, p, 7))), some (.inr none), some (.inr none), some (.inr none), some (.inr none), some (.inr none), some (.inr none), some (.inr none)] (px_at td_Pl_init 33 rfl) lx_Pl_33 rfl (Nat.le_of_ble_eq_true rfl) rfl (px_rok1 _) ?_
  refine pw_aload_n 0 (px_at td_Pl_init 34 rfl) rfl rfl ?_
  refine pw_bipush (v := 12) (px_at td_Pl_init 35 rfl) (by decide) ?_
  refine pw_nI (N := 12) (8, p, 8) (px_at td_Pl_init 36 rfl) (by decide) (by decide +kernel) (by decide) (by simp [hf]) (fun _ => hz _ _) ((px_gs_n (by simp)).trans (hG (8, p, 8) (Or.inr rfl) rfl)) rfl rfl (by decide) (by decide) ?_
  refine pw_pS [none, none, none, some (.inr (some (8, p, 0))), some (.inr (some (8, p, 1))), some (.inr (some (8, p, 2))), some (.inr (some (8, p, 3))), some (.inr (some (8, p, 4))), some (.inr (some (8, p, 5))), some (.inr (some (8, p, 6))), some (.inr (some (8, p, 7))), some (.inr (some (8, p, 8))), some (.inr none), some (.inr none), some (.inr none), some (.inr none), some (.inr none), some (.inr none)] (px_at td_Pl_init 37 rfl) lx_Pl_36 rfl (Nat.le_of_ble_eq_true rfl) rfl (px_rok1 _) ?_
  refine pw_aload_n 0 (px_at td_Pl_init 38 rfl) rfl rfl ?_
  refine pw_bipush (v := 12) (px_at td_Pl_init 39 rfl) (by decide) ?_
  refine pw_nI (N := 12) (8, p, 9) (px_at td_Pl_init 40 rfl) (by decide) (by decide +kernel) (by decide) (by simp [hf]) (fun _ => hz _ _) ((px_gs_n (by simp)).trans (hG (8, p, 9) (Or.inr rfl) rfl)) rfl rfl (by decide) (by decide) ?_
  refine pw_pS [none, none, none, some (.inr (some (8, p, 0))), some (.inr (some (8, p, 1))), some (.inr (some (8, p, 2))), some (.inr (some (8, p, 3))), some (.inr (some (8, p, 4))), some (.inr (some (8, p, 5))), some (.inr (some (8, p, 6))), some (.inr (some (8, p, 7))), some (.inr (some (8, p, 8))), some (.inr (some (8, p, 9))), some (.inr none), some (.inr none), some (.inr none), some (.inr none), some (.inr none)] (px_at td_Pl_init 41 rfl) lx_Pl_39 rfl (Nat.le_of_ble_eq_true rfl) rfl (px_rok1 _) ?_
  refine pw_aload_n 0 (px_at td_Pl_init 42 rfl) rfl rfl ?_
  refine pw_bipush (v := 12) (px_at td_Pl_init 43 rfl) (by decide) ?_
  refine pw_nI (N := 12) (8, p, 10) (px_at td_Pl_init 44 rfl) (by decide) (by decide +kernel) (by decide) (by simp [hf]) (fun _ => hz _ _) ((px_gs_n (by simp)).trans (hG (8, p, 10) (Or.inr rfl) rfl)) rfl rfl (by decide) (by decide) ?_
  refine pw_pS [none, none, none, some (.inr (some (8, p, 0))), some (.inr (some (8, p, 1))), some (.inr (some (8, p, 2))), some (.inr (some (8, p, 3))), some (.inr (some (8, p, 4))), some (.inr (some (8, p, 5))), some (.inr (some (8, p, 6))), some (.inr (some (8, p, 7))), some (.inr (some (8, p, 8))), some (.inr (some (8, p, 9))), some (.inr (some (8, p, 10))), some (.inr none), some (.inr none), some (.inr none), some (.inr none)] (px_at td_Pl_init 45 rfl) lx_Pl_42 rfl (Nat.le_of_ble_eq_true rfl) rfl (px_rok1 _) ?_
  refine pw_aload_n 0 (px_at td_Pl_init 46 rfl) rfl rfl ?_
  refine pw_bipush (v := 24) (px_at td_Pl_init 47 rfl) (by decide) ?_
  refine pw_nI (N := 24) (8, p, 11) (px_at td_Pl_init 48 rfl) (by decide) (by decide +kernel) (by decide) (by simp [hf]) (fun _ => hz _ _) ((px_gs_n (by simp)).trans (hG (8, p, 11) (Or.inr rfl) rfl)) rfl rfl (by decide) (by decide) ?_
  refine pw_pS [none, none, none, some (.inr (some (8, p, 0))), some (.inr (some (8, p, 1))), some (.inr (some (8, p, 2))), some (.inr (some (8, p, 3))), some (.inr (some (8, p, 4))), some (.inr (some (8, p, 5))), some (.inr (some (8, p, 6))), some (.inr (some (8, p, 7))), some (.inr (some (8, p, 8))), some (.inr (some (8, p, 9))), some (.inr (some (8, p, 10))), some (.inr (some (8, p, 11))), some (.inr none), some (.inr none), some (.inr none)] (px_at td_Pl_init 49 rfl) lx_Pl_45 rfl (Nat.le_of_ble_eq_true rfl) rfl (px_rok1 _) ?_
  refine pw_aload_n 0 (px_at td_Pl_init 50 rfl) rfl rfl ?_
  refine pw_bipush (v := 24) (px_at td_Pl_init 51 rfl) (by decide) ?_
  refine pw_nI (N := 24) (8, p, 12) (px_at td_Pl_init 52 rfl) (by decide) (by decide +kernel) (by decide) (by simp [hf]) (fun _ => hz _ _) ((px_gs_n (by simp)).trans (hG (8, p, 12) (Or.inr rfl) rfl)) rfl rfl (by decide) (by decide) ?_
  refine pw_pS [none, none, none, some (.inr (some (8, p, 0))), some (.inr (some (8, p, 1))), some (.inr (some (8, p, 2))), some (.inr (some (8, p, 3))), some (.inr (some (8, p, 4))), some (.inr (some (8, p, 5))), some (.inr (some (8, p, 6))), some (.inr (some (8, p, 7))), some (.inr (some (8, p, 8))), some (.inr (some (8, p, 9))), some (.inr (some (8, p, 10))), some (.inr (some (8, p, 11))), some (.inr (some (8, p, 12))), some (.inr none), some (.inr none)] (px_at td_Pl_init 53 rfl) lx_Pl_48 rfl (Nat.le_of_ble_eq_true rfl) rfl (px_rok1 _) ?_
  refine pw_aload_n 0 (px_at td_Pl_init 54 rfl) rfl rfl ?_
  refine pw_bipush (v := 24) (px_at td_Pl_init 55 rfl) (by decide) ?_
  refine pw_nI (N := 24) (8, p, 13) (px_at td_Pl_init 56 rfl) (by decide) (by decide +kernel) (by decide) (by simp [hf]) (fun _ => hz _ _) ((px_gs_n (by simp)).trans (hG (8, p, 13) (Or.inr rfl) rfl)) rfl rfl (by decide) (by decide) ?_
  refine pw_pS [none, none, none, some (.inr (some (8, p, 0))), some (.inr (some (8, p, 1))), some (.inr (some (8, p, 2))), some (.inr (some (8, p, 3))), some (.inr (some (8, p, 4))), some (.inr (some (8, p, 5))), some (.inr (some (8, p, 6))), some (.inr (some (8, p, 7))), some (.inr (some (8, p, 8))), some (.inr (some (8, p, 9))), some (.inr (some (8, p, 10))), some (.inr (some (8, p, 11))), some (.inr (some (8, p, 12))), some (.inr (some (8, p, 13))), some (.inr none)] (px_at td_Pl_init 57 rfl) lx_Pl_51 rfl (Nat.le_of_ble_eq_true rfl) rfl (px_rok1 _) ?_
  refine pw_aload_n 0 (px_at td_Pl_init 58 rfl) rfl rfl ?_
  refine pw_bipush (v := 8) (px_at td_Pl_init 59 rfl) (by decide) ?_
  refine pw_nI (N := 8) (8, p, 14) (px_at td_Pl_init 60 rfl) (by decide) (by decide +kernel) (by decide) (by simp [hf]) (fun _ => hz _ _) ((px_gs_n (by simp)).trans (hG (8, p, 14) (Or.inr rfl) rfl)) rfl rfl (by decide) (by decide) ?_
  refine pw_pS [none, none, none, some (.inr (some (8, p, 0))), some (.inr (some (8, p, 1))), some (.inr (some (8, p, 2))), some (.inr (some (8, p, 3))), some (.inr (some (8, p, 4))), some (.inr (some (8, p, 5))), some (.inr (some (8, p, 6))), some (.inr (some (8, p, 7))), some (.inr (some (8, p, 8))), some (.inr (some (8, p, 9))), some (.inr (some (8, p, 10))), some (.inr (some (8, p, 11))), some (.inr (some (8, p, 12))), some (.inr (some (8, p, 13))), some (.inr (some (8, p, 14)))] (px_at td_Pl_init 61 rfl) lx_Pl_54 rfl (Nat.le_of_ble_eq_true rfl) rfl (px_rok1 _) ?_
  refine pw_Gid (hG (1, p, 0) (Or.inl rfl) rfl) ?_
  exact pw_vret (px_at td_Pl_init 62 rfl) rfl (by decide) (by decide) ⟨rfl, rfl, rfl, rfl⟩
def F_Mo_init (σ : pxS) : Option pxS :=
  px_l (px_up σ (0, 0, 0) 25 (-1)) fun σ0 =>
  px_b1 (F_Mo_freshText σ0) fun σ1 =>
  px_b1 (F_Mo_takeText σ1) fun σ2 =>
  F_Mo_begins σ2
set_option maxRecDepth 100000 in
set_option maxHeartbeats 4000000 in
theorem k_Mo_init {l : Launch} {ids : List pxI} {G : pxG} {σ σ' : pxS} (hG : G = mG) (hf : ∀ a, (1, a, 0) ∉ ids) (hz : ∀ a q, σ (1, a, 0) q = 0) (h : F_Mo_init σ = some σ') : pm l y_Mo_init c_Mo_init 1 none (px_Rm 4 25 12324) [.inr (some (0, 0, 0))] ids (px_gs G (0, 0, 0) (.inr (.inr (6, [none, some (.inr none), none, some (.inr none), some (.inr none), some (.inr none), some (.inr none), some (.inr none), some (.inr none), some (.inr none), some (.inr none), some (.inr none), some (.inr none), some (.inr none), some (.inr none), some (.inr none), none, none, none, none, none, none, none, none, none, none, some (.inr none), some (.inr none), some (.inr none), some (.inr none), some (.inr none), some (.inr none), none, none, some (.inr none), some (.inr none), some (.inr none), some (.inr none), none, some (.inr none), none])))) σ (px_r none (ids ++ [(1, 1, 0)] ++ [(1, 3, 0)] ++ [(1, 4, 0)] ++ [(1, 5, 0)] ++ [(1, 6, 0)] ++ [(1, 7, 0)] ++ [(1, 8, 0)] ++ [(1, 9, 0)] ++ [(1, 10, 0)] ++ [(1, 11, 0)] ++ [(1, 12, 0)] ++ [(1, 13, 0)] ++ [(1, 14, 0)] ++ [(1, 15, 0)] ++ [(1, 26, 0)] ++ [(1, 27, 0)] ++ [(1, 28, 0)] ++ [(1, 29, 0)] ++ [(1, 30, 0)] ++ [(1, 31, 0)] ++ [(1, 34, 0)] ++ [(1, 35, 0)] ++ [(1, 36, 0)] ++ [(1, 37, 0)] ++ [(1, 39, 0)]) mG σ') := by
  unfold F_Mo_init at h
  obtain ⟨σ0, hs, h⟩ := px_l_e h
  obtain ⟨σ1, h1, h⟩ := px_b1_e h
  obtain ⟨σ2, h2, h3⟩ := px_b1_e h
  refine pm_ofF (by decide +kernel) (Nat.le_of_ble_eq_true rfl) ?_
  refine pw_aload_n 0 (px_at td_Mo_init 0 rfl) rfl rfl ?_
  refine pw_objinit (px_at td_Mo_init 1 rfl) lo_Mo lo_1 lo_2 (by decide) (Nat.le_of_ble_eq_true rfl) ?_
  refine pw_aload_n 0 (px_at td_Mo_init 2 rfl) rfl rfl ?_
  refine pw_sipush (v := 700) (px_at td_Mo_init 3 rfl) (by decide) ?_
  refine pw_nI (N := 700) (1, 1, 0) (px_at td_Mo_init 4 rfl) (by decide) (by decide +kernel) (by decide) (by simp [hf]) (fun _ => (by first | exact hz _ _ | (rw [hs, px_up_ne (by simp)]; exact hz _ _))) ((px_gs_n (by simp)).trans (by rw [hG]; rfl)) rfl rfl (by decide) (by decide) ?_
  refine pw_pS [none, some (.inr (some (1, 1, 0))), none, some (.inr none), some (.inr none), some (.inr none), some (.inr none), some (.inr none), some (.inr none), some (.inr none), some (.inr none), some (.inr none), some (.inr none), some (.inr none), some (.inr none), some (.inr none), none, none, none, none, none, none, none, none, none, none, some (.inr none), some (.inr none), some (.inr none), some (.inr none), some (.inr none), some (.inr none), none, none, some (.inr none), some (.inr none), some (.inr none), some (.inr none), none, some (.inr none), none] (px_at td_Mo_init 5 rfl) lx_Mo_7 rfl (Nat.le_of_ble_eq_true rfl) rfl (px_rok1 _) ?_
  refine pw_aload_n 0 (px_at td_Mo_init 6 rfl) rfl rfl ?_
  refine pw_bipush (v := 22) (px_at td_Mo_init 7 rfl) (by decide) ?_
  refine pw_nI (N := 22) (1, 3, 0) (px_at td_Mo_init 8 rfl) (by decide) (by decide +kernel) (by decide) (by simp [hf]) (fun _ => (by first | exact hz _ _ | (rw [hs, px_up_ne (by simp)]; exact hz _ _))) ((px_gs_n (by simp)).trans (by rw [hG]; rfl)) rfl rfl (by decide) (by decide) ?_
  refine pw_pS [none, some (.inr (some (1, 1, 0))), none, some (.inr (some (1, 3, 0))), some (.inr none), some (.inr none), some (.inr none), some (.inr none), some (.inr none), some (.inr none), some (.inr none), some (.inr none), some (.inr none), some (.inr none), some (.inr none), some (.inr none), none, none, none, none, none, none, none, none, none, none, some (.inr none), some (.inr none), some (.inr none), some (.inr none), some (.inr none), some (.inr none), none, none, some (.inr none), some (.inr none), some (.inr none), some (.inr none), none, some (.inr none), none] (px_at td_Mo_init 9 rfl) lx_Mo_13 rfl (Nat.le_of_ble_eq_true rfl) rfl (px_rok1 _) ?_
  refine pw_aload_n 0 (px_at td_Mo_init 10 rfl) rfl rfl ?_
  refine pw_bipush (v := 14) (px_at td_Mo_init 11 rfl) (by decide) ?_
  refine pw_nZ (N := 14) (1, 4, 0) (px_at td_Mo_init 12 rfl) (by decide) (by decide +kernel) (by decide) (by simp [hf]) (fun _ => (by first | exact hz _ _ | (rw [hs, px_up_ne (by simp)]; exact hz _ _))) ((px_gs_n (by simp)).trans (by rw [hG]; rfl)) rfl rfl (by decide) (by decide) ?_
  refine pw_pS [none, some (.inr (some (1, 1, 0))), none, some (.inr (some (1, 3, 0))), some (.inr (some (1, 4, 0))), some (.inr none), some (.inr none), some (.inr none), some (.inr none), some (.inr none), some (.inr none), some (.inr none), some (.inr none), some (.inr none), some (.inr none), some (.inr none), none, none, none, none, none, none, none, none, none, none, some (.inr none), some (.inr none), some (.inr none), some (.inr none), some (.inr none), some (.inr none), none, none, some (.inr none), some (.inr none), some (.inr none), some (.inr none), none, some (.inr none), none] (px_at td_Mo_init 13 rfl) lx_Mo_16 rfl (Nat.le_of_ble_eq_true rfl) rfl (px_rok1 _) ?_
  refine pw_aload_n 0 (px_at td_Mo_init 14 rfl) rfl rfl ?_
  refine pw_bipush (v := 24) (px_at td_Mo_init 15 rfl) (by decide) ?_
  refine pw_nI (N := 24) (1, 5, 0) (px_at td_Mo_init 16 rfl) (by decide) (by decide +kernel) (by decide) (by simp [hf]) (fun _ => (by first | exact hz _ _ | (rw [hs, px_up_ne (by simp)]; exact hz _ _))) ((px_gs_n (by simp)).trans (by rw [hG]; rfl)) rfl rfl (by decide) (by decide) ?_
  refine pw_pS [none, some (.inr (some (1, 1, 0))), none, some (.inr (some (1, 3, 0))), some (.inr (some (1, 4, 0))), some (.inr (some (1, 5, 0))), some (.inr none), some (.inr none), some (.inr none), some (.inr none), some (.inr none), some (.inr none), some (.inr none), some (.inr none), some (.inr none), some (.inr none), none, none, none, none, none, none, none, none, none, none, some (.inr none), some (.inr none), some (.inr none), some (.inr none), some (.inr none), some (.inr none), none, none, some (.inr none), some (.inr none), some (.inr none), some (.inr none), none, some (.inr none), none] (px_at td_Mo_init 17 rfl) lx_Mo_20 rfl (Nat.le_of_ble_eq_true rfl) rfl (px_rok1 _) ?_
  refine pw_aload_n 0 (px_at td_Mo_init 18 rfl) rfl rfl ?_
  refine pw_bipush (v := 24) (px_at td_Mo_init 19 rfl) (by decide) ?_
  refine pw_nI (N := 24) (1, 6, 0) (px_at td_Mo_init 20 rfl) (by decide) (by decide +kernel) (by decide) (by simp [hf]) (fun _ => (by first | exact hz _ _ | (rw [hs, px_up_ne (by simp)]; exact hz _ _))) ((px_gs_n (by simp)).trans (by rw [hG]; rfl)) rfl rfl (by decide) (by decide) ?_
  refine pw_pS [none, some (.inr (some (1, 1, 0))), none, some (.inr (some (1, 3, 0))), some (.inr (some (1, 4, 0))), some (.inr (some (1, 5, 0))), some (.inr (some (1, 6, 0))), some (.inr none), some (.inr none), some (.inr none), some (.inr none), some (.inr none), some (.inr none), some (.inr none), some (.inr none), some (.inr none), none, none, none, none, none, none, none, none, none, none, some (.inr none), some (.inr none), some (.inr none), some (.inr none), some (.inr none), some (.inr none), none, none, some (.inr none), some (.inr none), some (.inr none), some (.inr none), none, some (.inr none), none] (px_at td_Mo_init 21 rfl) lx_Mo_23 rfl (Nat.le_of_ble_eq_true rfl) rfl (px_rok1 _) ?_
  refine pw_aload_n 0 (px_at td_Mo_init 22 rfl) rfl rfl ?_
  refine pw_bipush (v := 24) (px_at td_Mo_init 23 rfl) (by decide) ?_
  refine pw_nI (N := 24) (1, 7, 0) (px_at td_Mo_init 24 rfl) (by decide) (by decide +kernel) (by decide) (by simp [hf]) (fun _ => (by first | exact hz _ _ | (rw [hs, px_up_ne (by simp)]; exact hz _ _))) ((px_gs_n (by simp)).trans (by rw [hG]; rfl)) rfl rfl (by decide) (by decide) ?_
  refine pw_pS [none, some (.inr (some (1, 1, 0))), none, some (.inr (some (1, 3, 0))), some (.inr (some (1, 4, 0))), some (.inr (some (1, 5, 0))), some (.inr (some (1, 6, 0))), some (.inr (some (1, 7, 0))), some (.inr none), some (.inr none), some (.inr none), some (.inr none), some (.inr none), some (.inr none), some (.inr none), some (.inr none), none, none, none, none, none, none, none, none, none, none, some (.inr none), some (.inr none), some (.inr none), some (.inr none), some (.inr none), some (.inr none), none, none, some (.inr none), some (.inr none), some (.inr none), some (.inr none), none, some (.inr none), none] (px_at td_Mo_init 25 rfl) lx_Mo_26 rfl (Nat.le_of_ble_eq_true rfl) rfl (px_rok1 _) ?_
  refine pw_aload_n 0 (px_at td_Mo_init 26 rfl) rfl rfl ?_
  refine pw_bipush (v := 24) (px_at td_Mo_init 27 rfl) (by decide) ?_
  refine pw_nI (N := 24) (1, 8, 0) (px_at td_Mo_init 28 rfl) (by decide) (by decide +kernel) (by decide) (by simp [hf]) (fun _ => (by first | exact hz _ _ | (rw [hs, px_up_ne (by simp)]; exact hz _ _))) ((px_gs_n (by simp)).trans (by rw [hG]; rfl)) rfl rfl (by decide) (by decide) ?_
  refine pw_pS [none, some (.inr (some (1, 1, 0))), none, some (.inr (some (1, 3, 0))), some (.inr (some (1, 4, 0))), some (.inr (some (1, 5, 0))), some (.inr (some (1, 6, 0))), some (.inr (some (1, 7, 0))), some (.inr (some (1, 8, 0))), some (.inr none), some (.inr none), some (.inr none), some (.inr none), some (.inr none), some (.inr none), some (.inr none), none, none, none, none, none, none, none, none, none, none, some (.inr none), some (.inr none), some (.inr none), some (.inr none), some (.inr none), some (.inr none), none, none, some (.inr none), some (.inr none), some (.inr none), some (.inr none), none, some (.inr none), none] (px_at td_Mo_init 29 rfl) lx_Mo_29 rfl (Nat.le_of_ble_eq_true rfl) rfl (px_rok1 _) ?_
  refine pw_aload_n 0 (px_at td_Mo_init 30 rfl) rfl rfl ?_
  refine pw_bipush (v := 24) (px_at td_Mo_init 31 rfl) (by decide) ?_
  refine pw_nI (N := 24) (1, 9, 0) (px_at td_Mo_init 32 rfl) (by decide) (by decide +kernel) (by decide) (by simp [hf]) (fun _ => (by first | exact hz _ _ | (rw [hs, px_up_ne (by simp)]; exact hz _ _))) ((px_gs_n (by simp)).trans (by rw [hG]; rfl)) rfl rfl (by decide) (by decide) ?_
  refine pw_pS [none, some (.inr (some (1, 1, 0))), none, some (.inr (some (1, 3, 0))), some (.inr (some (1, 4, 0))), some (.inr (some (1, 5, 0))), some (.inr (some (1, 6, 0))), some (.inr (some (1, 7, 0))), some (.inr (some (1, 8, 0))), some (.inr (some (1, 9, 0))), some (.inr none), some (.inr none), some (.inr none), some (.inr none), some (.inr none), some (.inr none), none, none, none, none, none, none, none, none, none, none, some (.inr none), some (.inr none), some (.inr none), some (.inr none), some (.inr none), some (.inr none), none, none, some (.inr none), some (.inr none), some (.inr none), some (.inr none), none, some (.inr none), none] (px_at td_Mo_init 33 rfl) lx_Mo_32 rfl (Nat.le_of_ble_eq_true rfl) rfl (px_rok1 _) ?_
  refine pw_aload_n 0 (px_at td_Mo_init 34 rfl) rfl rfl ?_
  refine pw_bipush (v := 24) (px_at td_Mo_init 35 rfl) (by decide) ?_
  refine pw_nI (N := 24) (1, 10, 0) (px_at td_Mo_init 36 rfl) (by decide) (by decide +kernel) (by decide) (by simp [hf]) (fun _ => (by first | exact hz _ _ | (rw [hs, px_up_ne (by simp)]; exact hz _ _))) ((px_gs_n (by simp)).trans (by rw [hG]; rfl)) rfl rfl (by decide) (by decide) ?_
  refine pw_pS [none, some (.inr (some (1, 1, 0))), none, some (.inr (some (1, 3, 0))), some (.inr (some (1, 4, 0))), some (.inr (some (1, 5, 0))), some (.inr (some (1, 6, 0))), some (.inr (some (1, 7, 0))), some (.inr (some (1, 8, 0))), some (.inr (some (1, 9, 0))), some (.inr (some (1, 10, 0))), some (.inr none), some (.inr none), some (.inr none), some (.inr none), some (.inr none), none, none, none, none, none, none, none, none, none, none, some (.inr none), some (.inr none), some (.inr none), some (.inr none), some (.inr none), some (.inr none), none, none, some (.inr none), some (.inr none), some (.inr none), some (.inr none), none, some (.inr none), none] (px_at td_Mo_init 37 rfl) lx_Mo_35 rfl (Nat.le_of_ble_eq_true rfl) rfl (px_rok1 _) ?_
  refine pw_aload_n 0 (px_at td_Mo_init 38 rfl) rfl rfl ?_
  refine pw_bipush (v := 24) (px_at td_Mo_init 39 rfl) (by decide) ?_
  refine pw_nI (N := 24) (1, 11, 0) (px_at td_Mo_init 40 rfl) (by decide) (by decide +kernel) (by decide) (by simp [hf]) (fun _ => (by first | exact hz _ _ | (rw [hs, px_up_ne (by simp)]; exact hz _ _))) ((px_gs_n (by simp)).trans (by rw [hG]; rfl)) rfl rfl (by decide) (by decide) ?_
  refine pw_pS [none, some (.inr (some (1, 1, 0))), none, some (.inr (some (1, 3, 0))), some (.inr (some (1, 4, 0))), some (.inr (some (1, 5, 0))), some (.inr (some (1, 6, 0))), some (.inr (some (1, 7, 0))), some (.inr (some (1, 8, 0))), some (.inr (some (1, 9, 0))), some (.inr (some (1, 10, 0))), some (.inr (some (1, 11, 0))), some (.inr none), some (.inr none), some (.inr none), some (.inr none), none, none, none, none, none, none, none, none, none, none, some (.inr none), some (.inr none), some (.inr none), some (.inr none), some (.inr none), some (.inr none), none, none, some (.inr none), some (.inr none), some (.inr none), some (.inr none), none, some (.inr none), none] (px_at td_Mo_init 41 rfl) lx_Mo_38 rfl (Nat.le_of_ble_eq_true rfl) rfl (px_rok1 _) ?_
  refine pw_aload_n 0 (px_at td_Mo_init 42 rfl) rfl rfl ?_
  refine pw_bipush (v := 24) (px_at td_Mo_init 43 rfl) (by decide) ?_
  refine pw_nI (N := 24) (1, 12, 0) (px_at td_Mo_init 44 rfl) (by decide) (by decide +kernel) (by decide) (by simp [hf]) (fun _ => (by first | exact hz _ _ | (rw [hs, px_up_ne (by simp)]; exact hz _ _))) ((px_gs_n (by simp)).trans (by rw [hG]; rfl)) rfl rfl (by decide) (by decide) ?_
  refine pw_pS [none, some (.inr (some (1, 1, 0))), none, some (.inr (some (1, 3, 0))), some (.inr (some (1, 4, 0))), some (.inr (some (1, 5, 0))), some (.inr (some (1, 6, 0))), some (.inr (some (1, 7, 0))), some (.inr (some (1, 8, 0))), some (.inr (some (1, 9, 0))), some (.inr (some (1, 10, 0))), some (.inr (some (1, 11, 0))), some (.inr (some (1, 12, 0))), some (.inr none), some (.inr none), some (.inr none), none, none, none, none, none, none, none, none, none, none, some (.inr none), some (.inr none), some (.inr none), some (.inr none), some (.inr none), some (.inr none), none, none, some (.inr none), some (.inr none), some (.inr none), some (.inr none), none, some (.inr none), none] (px_at td_Mo_init 45 rfl) lx_Mo_41 rfl (Nat.le_of_ble_eq_true rfl) rfl (px_rok1 _) ?_
  refine pw_aload_n 0 (px_at td_Mo_init 46 rfl) rfl rfl ?_
  refine pw_bipush (v := 48) (px_at td_Mo_init 47 rfl) (by decide) ?_
  refine pw_nI (N := 48) (1, 13, 0) (px_at td_Mo_init 48 rfl) (by decide) (by decide +kernel) (by decide) (by simp [hf]) (fun _ => (by first | exact hz _ _ | (rw [hs, px_up_ne (by simp)]; exact hz _ _))) ((px_gs_n (by simp)).trans (by rw [hG]; rfl)) rfl rfl (by decide) (by decide) ?_
  refine pw_pS [none, some (.inr (some (1, 1, 0))), none, some (.inr (some (1, 3, 0))), some (.inr (some (1, 4, 0))), some (.inr (some (1, 5, 0))), some (.inr (some (1, 6, 0))), some (.inr (some (1, 7, 0))), some (.inr (some (1, 8, 0))), some (.inr (some (1, 9, 0))), some (.inr (some (1, 10, 0))), some (.inr (some (1, 11, 0))), some (.inr (some (1, 12, 0))), some (.inr (some (1, 13, 0))), some (.inr none), some (.inr none), none, none, none, none, none, none, none, none, none, none, some (.inr none), some (.inr none), some (.inr none), some (.inr none), some (.inr none), some (.inr none), none, none, some (.inr none), some (.inr none), some (.inr none), some (.inr none), none, some (.inr none), none] (px_at td_Mo_init 49 rfl) lx_Mo_44 rfl (Nat.le_of_ble_eq_true rfl) rfl (px_rok1 _) ?_
  refine pw_aload_n 0 (px_at td_Mo_init 50 rfl) rfl rfl ?_
  refine pw_bipush (v := 48) (px_at td_Mo_init 51 rfl) (by decide) ?_
  refine pw_nI (N := 48) (1, 14, 0) (px_at td_Mo_init 52 rfl) (by decide) (by decide +kernel) (by decide) (by simp [hf]) (fun _ => (by first | exact hz _ _ | (rw [hs, px_up_ne (by simp)]; exact hz _ _))) ((px_gs_n (by simp)).trans (by rw [hG]; rfl)) rfl rfl (by decide) (by decide) ?_
  refine pw_pS [none, some (.inr (some (1, 1, 0))), none, some (.inr (some (1, 3, 0))), some (.inr (some (1, 4, 0))), some (.inr (some (1, 5, 0))), some (.inr (some (1, 6, 0))), some (.inr (some (1, 7, 0))), some (.inr (some (1, 8, 0))), some (.inr (some (1, 9, 0))), some (.inr (some (1, 10, 0))), some (.inr (some (1, 11, 0))), some (.inr (some (1, 12, 0))), some (.inr (some (1, 13, 0))), some (.inr (some (1, 14, 0))), some (.inr none), none, none, none, none, none, none, none, none, none, none, some (.inr none), some (.inr none), some (.inr none), some (.inr none), some (.inr none), some (.inr none), none, none, some (.inr none), some (.inr none), some (.inr none), some (.inr none), none, some (.inr none), none] (px_at td_Mo_init 53 rfl) lx_Mo_47 rfl (Nat.le_of_ble_eq_true rfl) rfl (px_rok1 _) ?_
  refine pw_aload_n 0 (px_at td_Mo_init 54 rfl) rfl rfl ?_
  refine pw_bipush (v := 48) (px_at td_Mo_init 55 rfl) (by decide) ?_
  refine pw_nI (N := 48) (1, 15, 0) (px_at td_Mo_init 56 rfl) (by decide) (by decide +kernel) (by decide) (by simp [hf]) (fun _ => (by first | exact hz _ _ | (rw [hs, px_up_ne (by simp)]; exact hz _ _))) ((px_gs_n (by simp)).trans (by rw [hG]; rfl)) rfl rfl (by decide) (by decide) ?_
  refine pw_pS [none, some (.inr (some (1, 1, 0))), none, some (.inr (some (1, 3, 0))), some (.inr (some (1, 4, 0))), some (.inr (some (1, 5, 0))), some (.inr (some (1, 6, 0))), some (.inr (some (1, 7, 0))), some (.inr (some (1, 8, 0))), some (.inr (some (1, 9, 0))), some (.inr (some (1, 10, 0))), some (.inr (some (1, 11, 0))), some (.inr (some (1, 12, 0))), some (.inr (some (1, 13, 0))), some (.inr (some (1, 14, 0))), some (.inr (some (1, 15, 0))), none, none, none, none, none, none, none, none, none, none, some (.inr none), some (.inr none), some (.inr none), some (.inr none), some (.inr none), some (.inr none), none, none, some (.inr none), some (.inr none), some (.inr none), some (.inr none), none, some (.inr none), none] (px_at td_Mo_init 57 rfl) lx_Mo_50 rfl (Nat.le_of_ble_eq_true rfl) rfl (px_rok1 _) ?_
  refine pw_aload_n 0 (px_at td_Mo_init 58 rfl) rfl rfl ?_
  refine pw_iconst (v := (-1)) (px_at td_Mo_init 59 rfl) (by decide) ?_
  refine pw_puti (px_at td_Mo_init 60 rfl) lw_Mo_53 px_gs_s rfl (pw_s hs ?_)
  refine pw_aload_n 0 (px_at td_Mo_init 61 rfl) rfl rfl ?_
  refine pw_bipush (v := 12) (px_at td_Mo_init 62 rfl) (by decide) ?_
  refine pw_nI (N := 12) (1, 26, 0) (px_at td_Mo_init 63 rfl) (by decide) (by decide +kernel) (by decide) (by simp [hf]) (fun _ => (by first | exact hz _ _ | (rw [hs, px_up_ne (by simp)]; exact hz _ _))) ((px_gs_n (by simp)).trans (by rw [hG]; rfl)) rfl rfl (by decide) (by decide) ?_
  refine pw_pS [none, some (.inr (some (1, 1, 0))), none, some (.inr (some (1, 3, 0))), some (.inr (some (1, 4, 0))), some (.inr (some (1, 5, 0))), some (.inr (some (1, 6, 0))), some (.inr (some (1, 7, 0))), some (.inr (some (1, 8, 0))), some (.inr (some (1, 9, 0))), some (.inr (some (1, 10, 0))), some (.inr (some (1, 11, 0))), some (.inr (some (1, 12, 0))), some (.inr (some (1, 13, 0))), some (.inr (some (1, 14, 0))), some (.inr (some (1, 15, 0))), none, none, none, none, none, none, none, none, none, none, some (.inr (some (1, 26, 0))), some (.inr none), some (.inr none), some (.inr none), some (.inr none), some (.inr none), none, none, some (.inr none), some (.inr none), some (.inr none), some (.inr none), none, some (.inr none), none] (px_at td_Mo_init 64 rfl) lx_Mo_57 rfl (Nat.le_of_ble_eq_true rfl) rfl (px_rok1 _) ?_
  refine pw_aload_n 0 (px_at td_Mo_init 65 rfl) rfl rfl ?_
  refine pw_bipush (v := 12) (px_at td_Mo_init 66 rfl) (by decide) ?_
  refine pw_nI (N := 12) (1, 27, 0) (px_at td_Mo_init 67 rfl) (by decide) (by decide +kernel) (by decide) (by simp [hf]) (fun _ => (by first | exact hz _ _ | (rw [hs, px_up_ne (by simp)]; exact hz _ _))) ((px_gs_n (by simp)).trans (by rw [hG]; rfl)) rfl rfl (by decide) (by decide) ?_
  refine pw_pS [none, some (.inr (some (1, 1, 0))), none, some (.inr (some (1, 3, 0))), some (.inr (some (1, 4, 0))), some (.inr (some (1, 5, 0))), some (.inr (some (1, 6, 0))), some (.inr (some (1, 7, 0))), some (.inr (some (1, 8, 0))), some (.inr (some (1, 9, 0))), some (.inr (some (1, 10, 0))), some (.inr (some (1, 11, 0))), some (.inr (some (1, 12, 0))), some (.inr (some (1, 13, 0))), some (.inr (some (1, 14, 0))), some (.inr (some (1, 15, 0))), none, none, none, none, none, none, none, none, none, none, some (.inr (some (1, 26, 0))), some (.inr (some (1, 27, 0))), some (.inr none), some (.inr none), some (.inr none), some (.inr none), none, none, some (.inr none), some (.inr none), some (.inr none), some (.inr none), none, some (.inr none), none] (px_at td_Mo_init 68 rfl) lx_Mo_60 rfl (Nat.le_of_ble_eq_true rfl) rfl (px_rok1 _) ?_
  refine pw_aload_n 0 (px_at td_Mo_init 69 rfl) rfl rfl ?_
  refine pw_sipush (v := 308) (px_at td_Mo_init 70 rfl) (by decide) ?_
  refine pw_nI (N := 308) (1, 28, 0) (px_at td_Mo_init 71 rfl) (by decide) (by decide +kernel) (by decide) (by simp [hf]) (fun _ => (by first | exact hz _ _ | (rw [hs, px_up_ne (by simp)]; exact hz _ _))) ((px_gs_n (by simp)).trans (by rw [hG]; rfl)) rfl rfl (by decide) (by decide) ?_
  refine pw_pS [none, some (.inr (some (1, 1, 0))), none, some (.inr (some (1, 3, 0))), some (.inr (some (1, 4, 0))), some (.inr (some (1, 5, 0))), some (.inr (some (1, 6, 0))), some (.inr (some (1, 7, 0))), some (.inr (some (1, 8, 0))), some (.inr (some (1, 9, 0))), some (.inr (some (1, 10, 0))), some (.inr (some (1, 11, 0))), some (.inr (some (1, 12, 0))), some (.inr (some (1, 13, 0))), some (.inr (some (1, 14, 0))), some (.inr (some (1, 15, 0))), none, none, none, none, none, none, none, none, none, none, some (.inr (some (1, 26, 0))), some (.inr (some (1, 27, 0))), some (.inr (some (1, 28, 0))), some (.inr none), some (.inr none), some (.inr none), none, none, some (.inr none), some (.inr none), some (.inr none), some (.inr none), none, some (.inr none), none] (px_at td_Mo_init 72 rfl) lx_Mo_63 rfl (Nat.le_of_ble_eq_true rfl) rfl (px_rok1 _) ?_
  refine pw_aload_n 0 (px_at td_Mo_init 73 rfl) rfl rfl ?_
  refine pw_sipush (v := 308) (px_at td_Mo_init 74 rfl) (by decide) ?_
  refine pw_nI (N := 308) (1, 29, 0) (px_at td_Mo_init 75 rfl) (by decide) (by decide +kernel) (by decide) (by simp [hf]) (fun _ => (by first | exact hz _ _ | (rw [hs, px_up_ne (by simp)]; exact hz _ _))) ((px_gs_n (by simp)).trans (by rw [hG]; rfl)) rfl rfl (by decide) (by decide) ?_
  refine pw_pS [none, some (.inr (some (1, 1, 0))), none, some (.inr (some (1, 3, 0))), some (.inr (some (1, 4, 0))), some (.inr (some (1, 5, 0))), some (.inr (some (1, 6, 0))), some (.inr (some (1, 7, 0))), some (.inr (some (1, 8, 0))), some (.inr (some (1, 9, 0))), some (.inr (some (1, 10, 0))), some (.inr (some (1, 11, 0))), some (.inr (some (1, 12, 0))), some (.inr (some (1, 13, 0))), some (.inr (some (1, 14, 0))), some (.inr (some (1, 15, 0))), none, none, none, none, none, none, none, none, none, none, some (.inr (some (1, 26, 0))), some (.inr (some (1, 27, 0))), some (.inr (some (1, 28, 0))), some (.inr (some (1, 29, 0))), some (.inr none), some (.inr none), none, none, some (.inr none), some (.inr none), some (.inr none), some (.inr none), none, some (.inr none), none] (px_at td_Mo_init 76 rfl) lx_Mo_66 rfl (Nat.le_of_ble_eq_true rfl) rfl (px_rok1 _) ?_
  refine pw_aload_n 0 (px_at td_Mo_init 77 rfl) rfl rfl ?_
  refine pw_sipush (v := 308) (px_at td_Mo_init 78 rfl) (by decide) ?_
  refine pw_nI (N := 308) (1, 30, 0) (px_at td_Mo_init 79 rfl) (by decide) (by decide +kernel) (by decide) (by simp [hf]) (fun _ => (by first | exact hz _ _ | (rw [hs, px_up_ne (by simp)]; exact hz _ _))) ((px_gs_n (by simp)).trans (by rw [hG]; rfl)) rfl rfl (by decide) (by decide) ?_
  refine pw_pS [none, some (.inr (some (1, 1, 0))), none, some (.inr (some (1, 3, 0))), some (.inr (some (1, 4, 0))), some (.inr (some (1, 5, 0))), some (.inr (some (1, 6, 0))), some (.inr (some (1, 7, 0))), some (.inr (some (1, 8, 0))), some (.inr (some (1, 9, 0))), some (.inr (some (1, 10, 0))), some (.inr (some (1, 11, 0))), some (.inr (some (1, 12, 0))), some (.inr (some (1, 13, 0))), some (.inr (some (1, 14, 0))), some (.inr (some (1, 15, 0))), none, none, none, none, none, none, none, none, none, none, some (.inr (some (1, 26, 0))), some (.inr (some (1, 27, 0))), some (.inr (some (1, 28, 0))), some (.inr (some (1, 29, 0))), some (.inr (some (1, 30, 0))), some (.inr none), none, none, some (.inr none), some (.inr none), some (.inr none), some (.inr none), none, some (.inr none), none] (px_at td_Mo_init 80 rfl) lx_Mo_69 rfl (Nat.le_of_ble_eq_true rfl) rfl (px_rok1 _) ?_
  refine pw_aload_n 0 (px_at td_Mo_init 81 rfl) rfl rfl ?_
  refine pw_sipush (v := 6160) (px_at td_Mo_init 82 rfl) (by decide) ?_
  refine pw_nI (N := 6160) (1, 31, 0) (px_at td_Mo_init 83 rfl) (by decide) (by decide +kernel) (by decide) (by simp [hf]) (fun _ => (by first | exact hz _ _ | (rw [hs, px_up_ne (by simp)]; exact hz _ _))) ((px_gs_n (by simp)).trans (by rw [hG]; rfl)) rfl rfl (by decide) (by decide) ?_
  refine pw_pS [none, some (.inr (some (1, 1, 0))), none, some (.inr (some (1, 3, 0))), some (.inr (some (1, 4, 0))), some (.inr (some (1, 5, 0))), some (.inr (some (1, 6, 0))), some (.inr (some (1, 7, 0))), some (.inr (some (1, 8, 0))), some (.inr (some (1, 9, 0))), some (.inr (some (1, 10, 0))), some (.inr (some (1, 11, 0))), some (.inr (some (1, 12, 0))), some (.inr (some (1, 13, 0))), some (.inr (some (1, 14, 0))), some (.inr (some (1, 15, 0))), none, none, none, none, none, none, none, none, none, none, some (.inr (some (1, 26, 0))), some (.inr (some (1, 27, 0))), some (.inr (some (1, 28, 0))), some (.inr (some (1, 29, 0))), some (.inr (some (1, 30, 0))), some (.inr (some (1, 31, 0))), none, none, some (.inr none), some (.inr none), some (.inr none), some (.inr none), none, some (.inr none), none] (px_at td_Mo_init 84 rfl) lx_Mo_72 rfl (Nat.le_of_ble_eq_true rfl) rfl (px_rok1 _) ?_
  refine pw_aload_n 0 (px_at td_Mo_init 85 rfl) rfl rfl ?_
  refine pw_bipush (v := 12) (px_at td_Mo_init 86 rfl) (by decide) ?_
  refine pw_nI (N := 12) (1, 34, 0) (px_at td_Mo_init 87 rfl) (by decide) (by decide +kernel) (by decide) (by simp [hf]) (fun _ => (by first | exact hz _ _ | (rw [hs, px_up_ne (by simp)]; exact hz _ _))) ((px_gs_n (by simp)).trans (by rw [hG]; rfl)) rfl rfl (by decide) (by decide) ?_
  refine pw_pS [none, some (.inr (some (1, 1, 0))), none, some (.inr (some (1, 3, 0))), some (.inr (some (1, 4, 0))), some (.inr (some (1, 5, 0))), some (.inr (some (1, 6, 0))), some (.inr (some (1, 7, 0))), some (.inr (some (1, 8, 0))), some (.inr (some (1, 9, 0))), some (.inr (some (1, 10, 0))), some (.inr (some (1, 11, 0))), some (.inr (some (1, 12, 0))), some (.inr (some (1, 13, 0))), some (.inr (some (1, 14, 0))), some (.inr (some (1, 15, 0))), none, none, none, none, none, none, none, none, none, none, some (.inr (some (1, 26, 0))), some (.inr (some (1, 27, 0))), some (.inr (some (1, 28, 0))), some (.inr (some (1, 29, 0))), some (.inr (some (1, 30, 0))), some (.inr (some (1, 31, 0))), none, none, some (.inr (some (1, 34, 0))), some (.inr none), some (.inr none), some (.inr none), none, some (.inr none), none] (px_at td_Mo_init 88 rfl) lx_Mo_75 rfl (Nat.le_of_ble_eq_true rfl) rfl (px_rok1 _) ?_
  refine pw_aload_n 0 (px_at td_Mo_init 89 rfl) rfl rfl ?_
  refine pw_bipush (v := 12) (px_at td_Mo_init 90 rfl) (by decide) ?_
  refine pw_nI (N := 12) (1, 35, 0) (px_at td_Mo_init 91 rfl) (by decide) (by decide +kernel) (by decide) (by simp [hf]) (fun _ => (by first | exact hz _ _ | (rw [hs, px_up_ne (by simp)]; exact hz _ _))) ((px_gs_n (by simp)).trans (by rw [hG]; rfl)) rfl rfl (by decide) (by decide) ?_
  refine pw_pS [none, some (.inr (some (1, 1, 0))), none, some (.inr (some (1, 3, 0))), some (.inr (some (1, 4, 0))), some (.inr (some (1, 5, 0))), some (.inr (some (1, 6, 0))), some (.inr (some (1, 7, 0))), some (.inr (some (1, 8, 0))), some (.inr (some (1, 9, 0))), some (.inr (some (1, 10, 0))), some (.inr (some (1, 11, 0))), some (.inr (some (1, 12, 0))), some (.inr (some (1, 13, 0))), some (.inr (some (1, 14, 0))), some (.inr (some (1, 15, 0))), none, none, none, none, none, none, none, none, none, none, some (.inr (some (1, 26, 0))), some (.inr (some (1, 27, 0))), some (.inr (some (1, 28, 0))), some (.inr (some (1, 29, 0))), some (.inr (some (1, 30, 0))), some (.inr (some (1, 31, 0))), none, none, some (.inr (some (1, 34, 0))), some (.inr (some (1, 35, 0))), some (.inr none), some (.inr none), none, some (.inr none), none] (px_at td_Mo_init 92 rfl) lx_Mo_78 rfl (Nat.le_of_ble_eq_true rfl) rfl (px_rok1 _) ?_
  refine pw_aload_n 0 (px_at td_Mo_init 93 rfl) rfl rfl ?_
  refine pw_bipush (v := 12) (px_at td_Mo_init 94 rfl) (by decide) ?_
  refine pw_nI (N := 12) (1, 36, 0) (px_at td_Mo_init 95 rfl) (by decide) (by decide +kernel) (by decide) (by simp [hf]) (fun _ => (by first | exact hz _ _ | (rw [hs, px_up_ne (by simp)]; exact hz _ _))) ((px_gs_n (by simp)).trans (by rw [hG]; rfl)) rfl rfl (by decide) (by decide) ?_
  refine pw_pS [none, some (.inr (some (1, 1, 0))), none, some (.inr (some (1, 3, 0))), some (.inr (some (1, 4, 0))), some (.inr (some (1, 5, 0))), some (.inr (some (1, 6, 0))), some (.inr (some (1, 7, 0))), some (.inr (some (1, 8, 0))), some (.inr (some (1, 9, 0))), some (.inr (some (1, 10, 0))), some (.inr (some (1, 11, 0))), some (.inr (some (1, 12, 0))), some (.inr (some (1, 13, 0))), some (.inr (some (1, 14, 0))), some (.inr (some (1, 15, 0))), none, none, none, none, none, none, none, none, none, none, some (.inr (some (1, 26, 0))), some (.inr (some (1, 27, 0))), some (.inr (some (1, 28, 0))), some (.inr (some (1, 29, 0))), some (.inr (some (1, 30, 0))), some (.inr (some (1, 31, 0))), none, none, some (.inr (some (1, 34, 0))), some (.inr (some (1, 35, 0))), some (.inr (some (1, 36, 0))), some (.inr none), none, some (.inr none), none] (px_at td_Mo_init 96 rfl) lx_Mo_81 rfl (Nat.le_of_ble_eq_true rfl) rfl (px_rok1 _) ?_
  refine pw_aload_n 0 (px_at td_Mo_init 97 rfl) rfl rfl ?_
  refine pw_bipush (v := 12) (px_at td_Mo_init 98 rfl) (by decide) ?_
  refine pw_nI (N := 12) (1, 37, 0) (px_at td_Mo_init 99 rfl) (by decide) (by decide +kernel) (by decide) (by simp [hf]) (fun _ => (by first | exact hz _ _ | (rw [hs, px_up_ne (by simp)]; exact hz _ _))) ((px_gs_n (by simp)).trans (by rw [hG]; rfl)) rfl rfl (by decide) (by decide) ?_
  refine pw_pS [none, some (.inr (some (1, 1, 0))), none, some (.inr (some (1, 3, 0))), some (.inr (some (1, 4, 0))), some (.inr (some (1, 5, 0))), some (.inr (some (1, 6, 0))), some (.inr (some (1, 7, 0))), some (.inr (some (1, 8, 0))), some (.inr (some (1, 9, 0))), some (.inr (some (1, 10, 0))), some (.inr (some (1, 11, 0))), some (.inr (some (1, 12, 0))), some (.inr (some (1, 13, 0))), some (.inr (some (1, 14, 0))), some (.inr (some (1, 15, 0))), none, none, none, none, none, none, none, none, none, none, some (.inr (some (1, 26, 0))), some (.inr (some (1, 27, 0))), some (.inr (some (1, 28, 0))), some (.inr (some (1, 29, 0))), some (.inr (some (1, 30, 0))), some (.inr (some (1, 31, 0))), none, none, some (.inr (some (1, 34, 0))), some (.inr (some (1, 35, 0))), some (.inr (some (1, 36, 0))), some (.inr (some (1, 37, 0))), none, some (.inr none), none] (px_at td_Mo_init 100 rfl) lx_Mo_84 rfl (Nat.le_of_ble_eq_true rfl) rfl (px_rok1 _) ?_
  refine pw_aload_n 0 (px_at td_Mo_init 101 rfl) rfl rfl ?_
  refine pw_sipush (v := 4096) (px_at td_Mo_init 102 rfl) (by decide) ?_
  refine pw_nI (N := 4096) (1, 39, 0) (px_at td_Mo_init 103 rfl) (by decide) (by decide +kernel) (by decide) (by simp [hf]) (fun _ => (by first | exact hz _ _ | (rw [hs, px_up_ne (by simp)]; exact hz _ _))) ((px_gs_n (by simp)).trans (by rw [hG]; rfl)) rfl rfl (by decide) (by decide) ?_
  refine pw_pS [none, some (.inr (some (1, 1, 0))), none, some (.inr (some (1, 3, 0))), some (.inr (some (1, 4, 0))), some (.inr (some (1, 5, 0))), some (.inr (some (1, 6, 0))), some (.inr (some (1, 7, 0))), some (.inr (some (1, 8, 0))), some (.inr (some (1, 9, 0))), some (.inr (some (1, 10, 0))), some (.inr (some (1, 11, 0))), some (.inr (some (1, 12, 0))), some (.inr (some (1, 13, 0))), some (.inr (some (1, 14, 0))), some (.inr (some (1, 15, 0))), none, none, none, none, none, none, none, none, none, none, some (.inr (some (1, 26, 0))), some (.inr (some (1, 27, 0))), some (.inr (some (1, 28, 0))), some (.inr (some (1, 29, 0))), some (.inr (some (1, 30, 0))), some (.inr (some (1, 31, 0))), none, none, some (.inr (some (1, 34, 0))), some (.inr (some (1, 35, 0))), some (.inr (some (1, 36, 0))), some (.inr (some (1, 37, 0))), none, some (.inr (some (1, 39, 0))), none] (px_at td_Mo_init 104 rfl) lx_Mo_87 rfl (Nat.le_of_ble_eq_true rfl) rfl (px_rok1 _) ?_
  subst hG
  refine pw_Gid (G := mG) (i := (0, 0, 0)) rfl ?_
  refine pw_aload_n 0 (px_at td_Mo_init 105 rfl) rfl rfl ?_
  refine pw_cVm (0, 0, 0) [] [] (px_at td_Mo_init 106 rfl) lV_Mo_90 rfl rfl rfl (Nat.le_of_ble_eq_true rfl) (by decide) (by decide) (k_Mo_freshText h1) ?_
  refine pw_aload_n 0 (px_at td_Mo_init 107 rfl) rfl rfl ?_
  refine pw_cVm (0, 0, 0) [] [] (px_at td_Mo_init 108 rfl) lV_Mo_93 rfl rfl rfl (Nat.le_of_ble_eq_true rfl) (by decide) (by decide) (k_Mo_takeText h2) ?_
  refine pw_aload_n 0 (px_at td_Mo_init 109 rfl) rfl rfl ?_
  refine pw_cVm (0, 0, 0) [] [] (px_at td_Mo_init 110 rfl) lV_Mo_96 rfl rfl rfl (Nat.le_of_ble_eq_true rfl) (by decide) (by decide) (k_Mo_begins h3) ?_
  exact pw_vret (px_at td_Mo_init 111 rfl) rfl (by decide) (by decide) ⟨rfl, rfl, rfl, rfl⟩
theorem px_gs_c {G : pxG} {i j : pxI} {c d : pxC} (h : i ≠ j) : px_gs (px_gs G i c) j d = px_gs (px_gs G j d) i c := by
  funext q
  by_cases h1 : q = i
  · subst h1
    rw [px_gs_n h, px_gs_s, px_gs_s]
  · by_cases h2 : q = j
    · subst h2
      rw [px_gs_s, px_gs_n h1, px_gs_s]
    · rw [px_gs_n h2, px_gs_n h1, px_gs_n h1, px_gs_n h2]
/-- a row of references, told otherwise beyond its end -/
theorem pw_g {l : Launch} {R : Room} {y : MethodName} {cc : ByteArray} {nL : Nat} {ret : Option FieldType} {pc : Nat} {L : List (Nat × pxV)} {st : List pxV} {ids : List pxI} {G : pxG} {σ : pxS} {k n : Nat} {Rt : Option pxV → List pxI → pxG → pxS → Prop} {i : pxI} {t N : Nat} {g g' : Nat → Option pxI} (hG : G i = .inr (.inl (t, N, g))) (hg : ∀ q, q < N → g q = g' q) (h : pw l R y cc nL ret pc L st ids (px_gs G i (.inr (.inl (t, N, g')))) σ k n Rt) : pw l R y cc nL ret pc L st ids G σ k n Rt := by
  intro p e s m args below meth c H locs ls D tA ad ad0 ids0 A X
  have hws : px_ws ad tA ids G σ = px_ws ad tA ids (px_gs G i (.inr (.inl (t, N, g')))) σ := by
    refine List.map_congr_left fun j _ => ?_
    by_cases hj : j = i
    · subst hj
      rw [px_gs_s, hG]
      have : (fun q => if q < N then (g q).map ad else none) = fun q => if q < N then (g' q).map ad else none := by
        funext q
        by_cases hq : q < N
        · rw [if_pos hq, if_pos hq, hg q hq]
        · rw [if_neg hq, if_neg hq]
      show (ad j, (Sum.inl (tA t, N, Sum.inr (Sum.inr (Sum.inr (Sum.inr (fun q => if q < N then (g q).map ad else none))))) : va_E)) = (ad j, Sum.inl (tA t, N, Sum.inr (Sum.inr (Sum.inr (Sum.inr (fun q => if q < N then (g' q).map ad else none))))))
      rw [this]
    · rw [px_gs_n hj]
  obtain ⟨hP, hD, hS, hcl, hA⟩ := X.2.1
  refine h p e s m args below meth c H locs ls D tA ad ad0 ids0 A ⟨X.1, ⟨by rw [← hws]; exact hP, by rw [← hws]; exact hD, hS, ?_, hA⟩, X.2.2⟩
  intro j hj
  have h9 := hcl j hj
  by_cases hji : j = i
  · subst hji
    rw [px_gs_s]
    rw [hG] at h9
    intro q hq r hr
    rw [← hg q hq] at hr
    exact h9 q hq r hr
  · rw [px_gs_n hji]
    exact h9
def px_bk (k : Nat) (i : pxI) : Prop := i.2.1 = k ∧ (i.1 = 2 ∨ i.1 = 3 ∨ i.1 = 4 ∨ i.1 = 9 ∨ i.1 = 10 ∨ i.1 = 11)
def px_gk (f : Nat → pxI) (m : Nat) : Nat → Option pxI := fun q => if q < m then some (f q) else none
theorem px_gk_s (f : Nat → pxI) (m : Nat) : (fun q => if q = m then some (f m) else px_gk f m q) = px_gk f (m + 1) := by
  funext q
  unfold px_gk
  by_cases h : q = m
  · subst h
    rw [if_pos rfl, if_pos (Nat.lt_succ_self q)]
  · rw [if_neg h]
    by_cases h2 : q < m
    · rw [if_pos h2, if_pos (Nat.lt_succ_of_lt h2)]
    · rw [if_neg h2, if_neg (by omega)]
def px_rl (ids : List pxI) (k : Nat) : Nat → List pxI
  | 0 => ids
  | m + 1 => px_rl ids k m ++ [(3, k, m)]
theorem px_rl_mem {ids : List pxI} {k : Nat} : ∀ (m : Nat) (i : pxI), i ∈ px_rl ids k m → i ∈ ids ∨ ∃ j, j < m ∧ i = (3, k, j)
  | 0, i, h => Or.inl h
  | m + 1, i, h => by
    rcases List.mem_append.mp h with h | h
    · rcases px_rl_mem m i h with h | ⟨j, hj, e⟩
      · exact Or.inl h
      · exact Or.inr ⟨j, by omega, e⟩
    · exact Or.inr ⟨m, by omega, by simpa using h⟩
def px_bi (ids : List pxI) (k : Nat) : List pxI := ids ++ [(9, k, 0)] ++ [(4, k, 0)] ++ [(10, k, 0)] ++ [(4, k, 1)] ++ [(10, k, 1)] ++ [(11, k, 0)]
def px_bl (ids : List pxI) (k : Nat) : List pxI := px_rl (px_bi ids k) k 12
theorem px_bl_mem {ids : List pxI} {k : Nat} {i : pxI} (h : i ∈ px_bl ids k) : i ∈ ids ∨ px_bk k i := by
  rcases px_rl_mem 12 i h with h | ⟨j, _, rfl⟩
  · simp only [px_bi, List.mem_append, List.mem_singleton] at h
    rcases h with (((((h | h) | h) | h) | h) | h) | h
    · exact Or.inl h
    all_goals (subst h; exact Or.inr (by simp [px_bk]))
  · exact Or.inr (by simp [px_bk])
set_option maxRecDepth 100000 in
set_option maxHeartbeats 4000000 in
theorem e_Bo_loop {l : Launch} {ids : List pxI} {G : pxG} {σ : pxS} {k : Nat} {x : Int32} {Rt : Option pxV → List pxI → pxG → pxS → Prop} (hG : ∀ i, px_bk k i → G i = cG i) (hf : ∀ i, px_bk k i → i.1 = 3 → i ∉ ids) (hz : ∀ i q, px_bk k i → i.1 = 3 → σ i q = 0) (hR : Rt none (px_rl ids k 12) G σ) : ∀ (j m : Nat), m + j = 12 → pw l (px_Rm 3 18 238) y_Bo_init c_Bo_init 3 none 50 ((2, .inl (nI m)) :: [(0, .inr (some (2, k, 0))), (1, .inr (some (1, x.toNatClampNeg, 0)))]) [] (px_rl ids k m) (px_gs G (9, k, 0) (.inr (.inl (4, 12, px_gk (fun q => (3, k, q)) m)))) σ (6 + m) (82 + 13 * m) Rt := by
  intro j
  induction j with
  | zero =>
    intro m hm
    have hm : m = 12 := by omega
    subst hm
    refine pw_iload_n 0 (px_at td_Bo_init 25 rfl) rfl rfl ?_
    refine pw_bipush (v := 12) (px_at td_Bo_init 26 rfl) (by decide) ?_
    refine pw_icmp_ge 75 (px_at td_Bo_init 27 rfl) (by decide) (fun _ => ?_) (fun hn => absurd (by decide) hn)
    refine pw_g (i := (9, k, 0)) (g' := fun q => some (3, k, q)) px_gs_s (fun q hq => if_pos hq) ?_
    rw [px_gs_gs]
    refine pw_Gid (hG (9, k, 0) (by simp [px_bk])) ?_
    exact pw_vret (px_at td_Bo_init 37 rfl) rfl (by decide) (by decide) hR
  | succ j ih =>
    intro m hm
    have hlt : m < 12 := by omega
    have hcl : (nI m).toNatClampNeg = m := nI_clamp (by omega)
    have hne : (3, k, m) ∉ px_rl ids k m := fun h => by
      rcases px_rl_mem m _ h with h | ⟨j, hj, e⟩
      · exact hf (3, k, m) (by simp [px_bk]) rfl h
      · have : m = j := by simpa using e
        omega
    refine pw_iload_n 0 (px_at td_Bo_init 25 rfl) rfl rfl ?_
    refine pw_bipush (v := 12) (px_at td_Bo_init 26 rfl) (by decide) ?_
    refine pw_icmp_ge 75 (px_at td_Bo_init 27 rfl) (by decide) (fun hn => absurd hn (nI_ge hlt (by decide))) (fun _ => ?_)
    refine pw_aload_n 1 (px_at td_Bo_init 28 rfl) rfl rfl ?_
    refine pw_getf (v := .inr (some (9, k, 0))) (px_at td_Bo_init 29 rfl) lf_Bo_11 ((px_gs_n (by simp)).trans (hG (2, k, 0) (by simp [px_bk]))) rfl rfl ?_
    refine pw_iload_n 0 (px_at td_Bo_init 30 rfl) rfl rfl ?_
    refine pw_new (3, k, m) (ci := 3) (sl := [none, none, none, none, none, none, none, none, none, none, none, none, none]) (px_at td_Bo_init 31 rfl) rfl ln_Bo_9 li_Ra lz_Ra hne (fun q => hz (3, k, m) q (by simp [px_bk]) rfl) raw_Ra rfl (by show 6 + m + 1 ≤ 18; omega) (by show 82 + 13 * m + 13 ≤ 238; omega) ?_
    refine pw_Gid ((px_gs_n (by simp)).trans (hG (3, k, m) (by simp [px_bk]))) ?_
    refine pw_dup (px_at td_Bo_init 32 rfl) ?_
    refine pw_cI (3, k, m) [] [.inr (some (3, k, m)), .inl (nI m), .inr (some (9, k, 0))] (px_at td_Bo_init 33 rfl) lI_Bo_35 rfl rfl (Nat.le_of_ble_eq_true rfl) (by decide) rfl rfl (by constructor; show 6 + m + 1 ≤ 18; omega; show 82 + 13 * m + 13 ≤ 238; omega) k_Ra_init ?_
    refine pw_aast (ci := 3) (N := 12) (t := 4) (px_at td_Bo_init 34 rfl) px_gs_s rfl (fun _ => rfl) ((px_gs_n (by simp)).trans (hG (3, k, m) (by simp [px_bk]))) (vp_in_nI hlt (by decide)) (g' := px_gk (fun q => (3, k, q)) (m + 1)) (by rw [hcl]; exact px_gk_s (fun q => (3, k, q)) m) ?_
    rw [px_gs_gs]
    refine pw_iinc (q := 0) (v := nI (m + 1)) (L' := (2, .inl (nI (m + 1))) :: [(0, .inr (some (2, k, 0))), (1, .inr (some (1, x.toNatClampNeg, 0)))]) (px_at td_Bo_init 35 rfl) rfl (nI_1 m) (by decide) rfl ?_
    refine pw_goto 50 (px_at td_Bo_init 36 rfl) (by decide) ?_
    refine pw_kn (by show 6 + (m + 1) = 6 + m + 1 + 0; omega) (by show 82 + 13 * (m + 1) = 82 + 13 * m + 13 + 0; omega) (ih (m + 1) (by omega))
set_option maxRecDepth 100000 in
set_option maxHeartbeats 4000000 in
theorem k_Bo_init {l : Launch} {ids : List pxI} {G : pxG} {σ : pxS} {k : Nat} {x : Int32} (hG : ∀ i, px_bk k i → G i = cG i) (hf : ∀ i, px_bk k i → ¬ i.1 = 2 → i ∉ ids) (hz : ∀ i q, px_bk k i → ¬ i.1 = 2 → σ i q = 0) : pm l y_Bo_init c_Bo_init 3 none (px_Rm 3 18 238) [.inr (some (2, k, 0)), .inr (some (1, x.toNatClampNeg, 0))] ids (px_gs G (2, k, 0) (.inr (.inr (2, [some (.inr none), some (.inr none), some (.inr none), some (.inr none), some (.inr none), none, none, none, none, none, none])))) σ (px_r none (px_bl ids k) G (px_up σ (2, k, 0) 4 x)) := by
  refine pm_ofF (by decide +kernel) (Nat.le_of_ble_eq_true rfl) ?_
  refine pw_aload_n 0 (px_at td_Bo_init 0 rfl) rfl rfl ?_
  refine pw_objinit (px_at td_Bo_init 1 rfl) lo_Bo lo_1 lo_2 (by decide) (Nat.le_of_ble_eq_true rfl) ?_
  refine pw_aload_n 0 (px_at td_Bo_init 2 rfl) rfl rfl ?_
  refine pw_bipush (v := 12) (px_at td_Bo_init 3 rfl) (by decide) ?_
  refine pw_newq (9, k, 0) (px_at td_Bo_init 4 rfl) ln_Bo_9 (by decide) (t := 4) (N := 12) (fun _ => rfl) (by decide) (by decide +kernel) (by decide) (hf _ (by simp [px_bk]) (by simp)) (by decide) (by decide) ?_
  rw [px_gs_c (by simp)]
  refine pw_pS [some (.inr (some (9, k, 0))), some (.inr none), some (.inr none), some (.inr none), some (.inr none), none, none, none, none, none, none] (px_at td_Bo_init 5 rfl) lx_Bo_11 rfl (Nat.le_of_ble_eq_true rfl) rfl (px_rok1 _) ?_
  refine pw_aload_n 0 (px_at td_Bo_init 6 rfl) rfl rfl ?_
  refine pw_new (4, k, 0) (ci := 4) (sl := [some (.inr none), none, none]) (px_at td_Bo_init 7 rfl) rfl ln_Bo_17 li_Qu lz_Qu (by have h0 := hf (4, k, 0) (by simp [px_bk]) (by simp); simp [h0]) (fun q => hz _ q (by simp [px_bk]) (by simp)) raw_Qu rfl (by decide) (by decide) ?_
  refine pw_dup (px_at td_Bo_init 8 rfl) ?_
  refine pw_cI (4, k, 0) [] [.inr (some (4, k, 0)), .inr (some (2, k, 0))] (px_at td_Bo_init 9 rfl) lI_Bo_19 rfl rfl (Nat.le_of_ble_eq_true rfl) (by decide) rfl rfl (by decide) (k_Qu_init (by rw [px_gs_n (by simp), px_gs_n (by simp)]; exact hG _ (by simp [px_bk])) (by rw [px_gs_n (by simp), px_gs_n (by simp)]; exact hG _ (by simp [px_bk])) (by have h0 := hf (10, k, 0) (by simp [px_bk]) (by simp); simp [h0]) (fun q => hz _ q (by simp [px_bk]) (by simp))) ?_
  refine pw_pS [some (.inr (some (9, k, 0))), some (.inr (some (4, k, 0))), some (.inr none), some (.inr none), some (.inr none), none, none, none, none, none, none] (px_at td_Bo_init 10 rfl) lx_Bo_20 rfl (Nat.le_of_ble_eq_true rfl) rfl (px_rok2 _) ?_
  refine pw_aload_n 0 (px_at td_Bo_init 11 rfl) rfl rfl ?_
  refine pw_new (4, k, 1) (ci := 4) (sl := [some (.inr none), none, none]) (px_at td_Bo_init 12 rfl) rfl ln_Bo_17 li_Qu lz_Qu (by have h0 := hf (4, k, 1) (by simp [px_bk]) (by simp); simp [h0]) (fun q => hz _ q (by simp [px_bk]) (by simp)) raw_Qu rfl (by decide) (by decide) ?_
  refine pw_dup (px_at td_Bo_init 13 rfl) ?_
  refine pw_cI (4, k, 1) [] [.inr (some (4, k, 1)), .inr (some (2, k, 0))] (px_at td_Bo_init 14 rfl) lI_Bo_19 rfl rfl (Nat.le_of_ble_eq_true rfl) (by decide) rfl rfl (by decide) (k_Qu_init (by rw [px_gs_n (by simp), px_gs_n (by simp)]; exact hG _ (by simp [px_bk])) (by rw [px_gs_n (by simp), px_gs_n (by simp)]; exact hG _ (by simp [px_bk])) (by have h0 := hf (10, k, 1) (by simp [px_bk]) (by simp); simp [h0]) (fun q => hz _ q (by simp [px_bk]) (by simp))) ?_
  refine pw_pS [some (.inr (some (9, k, 0))), some (.inr (some (4, k, 0))), some (.inr (some (4, k, 1))), some (.inr none), some (.inr none), none, none, none, none, none, none] (px_at td_Bo_init 15 rfl) lx_Bo_24 rfl (Nat.le_of_ble_eq_true rfl) rfl (px_rok2 _) ?_
  refine pw_aload_n 0 (px_at td_Bo_init 16 rfl) rfl rfl ?_
  refine pw_bipush (v := 40) (px_at td_Bo_init 17 rfl) (by decide) ?_
  refine pw_nI (N := 40) (11, k, 0) (px_at td_Bo_init 18 rfl) (by decide) (by decide +kernel) (by decide) (by have h0 := hf (11, k, 0) (by simp [px_bk]) (by simp); simp [h0]) (fun q => hz _ q (by simp [px_bk]) (by simp)) (by rw [px_gs_n (by simp), px_gs_n (by simp)]; exact hG _ (by simp [px_bk])) rfl rfl (by decide) (by decide) ?_
  refine pw_pS [some (.inr (some (9, k, 0))), some (.inr (some (4, k, 0))), some (.inr (some (4, k, 1))), some (.inr (some (11, k, 0))), some (.inr none), none, none, none, none, none, none] (px_at td_Bo_init 19 rfl) lx_Bo_27 rfl (Nat.le_of_ble_eq_true rfl) rfl (px_rok1 _) ?_
  refine pw_aload_n 0 (px_at td_Bo_init 20 rfl) rfl rfl ?_
  refine pw_aload_n 1 (px_at td_Bo_init 21 rfl) rfl rfl ?_
  refine pw_pP x [some (.inr (some (9, k, 0))), some (.inr (some (4, k, 0))), some (.inr (some (4, k, 1))), some (.inr (some (11, k, 0))), some (.inl 1), none, none, none, none, none, none] (px_at td_Bo_init 22 rfl) lx_Bo_31 rfl (Nat.le_of_ble_eq_true rfl) rfl rfl (px_rok2 _) rfl ?_
  refine pw_Gid (i := (2, k, 0)) ((px_gs_n (by simp)).trans (hG (2, k, 0) (by simp [px_bk]))) ?_
  refine pw_iconst (v := 0) (px_at td_Bo_init 23 rfl) (by decide) ?_
  refine pw_istore_n (L' := (2, .inl (nI 0)) :: [(0, .inr (some (2, k, 0))), (1, .inr (some (1, x.toNatClampNeg, 0)))]) (px_at td_Bo_init 24 rfl) rfl (by decide) rfl ?_
  refine e_Bo_loop (ids := px_bi ids k) hG (fun i h1 h2 h => ?_) (fun i q h1 h2 => ?_) ⟨rfl, rfl, rfl, rfl⟩ 12 0 rfl
  · have h3 := hf i h1 (by rw [h2]; decide)
    simp only [px_bi, List.mem_append, List.mem_singleton] at h
    rcases h with (((((h | h) | h) | h) | h) | h) | h
    · exact h3 h
    all_goals (rw [h] at h2; exact absurd h2 (by simp))
  · rw [px_up_ne (fun e => by rw [e] at h2; exact absurd h2 (by simp))]
    exact hz i q h1 (by rw [h2]; decide)
set_option maxRecDepth 100000 in
theorem eG_Pl_forget {l : Launch} {ids : List pxI} {G : pxG} {Rt : Option pxV → List pxI → pxG → pxS → Prop} {σ : pxS} {p0 : Int32} {res : pxS} (hG1 : G (1, p0.toNatClampNeg, 0) = cG (1, p0.toNatClampNeg, 0)) (hG2 : G (8, p0.toNatClampNeg, 14) = cG (8, p0.toNatClampNeg, 14)) (h : F_Pl_forget σ p0 = some res) (hR : Rt none ids G res) : pw l (px_R 1) y_Pl_forget c_Pl_forget 1 none 0 [(0, .inr (some (1, p0.toNatClampNeg, 0)))] [] ids G σ 0 0 Rt := by
  unfold F_Pl_forget at h
  refine pw_aload_n 0 (px_at td_Pl_forget 0 rfl) rfl rfl ?_
  refine pw_iconst (v := 0) (px_at td_Pl_forget 1 rfl) (by decide) ?_
  obtain ⟨σ1, hσ1, h⟩ := px_l_e h
  refine pw_puti (px_at td_Pl_forget 2 rfl) lw_Pl_57 hG1 rfl (pw_s hσ1 ?_)
  refine pw_aload_n 0 (px_at td_Pl_forget 3 rfl) rfl rfl ?_
  refine pw_iconst (v := 0) (px_at td_Pl_forget 4 rfl) (by decide) ?_
  obtain ⟨σ2, hσ2, h⟩ := px_l_e h
  refine pw_puti (px_at td_Pl_forget 5 rfl) lw_Pl_61 hG1 rfl (pw_s hσ2 ?_)
  refine pw_aload_n 0 (px_at td_Pl_forget 6 rfl) rfl rfl ?_
  refine pw_iconst (v := 0) (px_at td_Pl_forget 7 rfl) (by decide) ?_
  obtain ⟨σ3, hσ3, h⟩ := px_l_e h
  refine pw_puti (px_at td_Pl_forget 8 rfl) lw_Pl_64 hG1 rfl (pw_s hσ3 ?_)
  refine pw_aload_n 0 (px_at td_Pl_forget 9 rfl) rfl rfl ?_
  refine pw_getf (v := .inr (some (8, p0.toNatClampNeg, 14))) (px_at td_Pl_forget 10 rfl) lf_Pl_54 hG1 rfl rfl ?_
  refine pw_iconst (v := 0) (px_at td_Pl_forget 11 rfl) (by decide) ?_
  refine pw_bipush (v := 50) (px_at td_Pl_forget 12 rfl) (by decide) ?_
  obtain ⟨σ4, hσ4, h⟩ := px_l_e h
  refine pw_ias (px_at td_Pl_forget 13 rfl) hG2 (px_inL (by decide) px_z0 (by decide)) px_z0 hσ4 ?_
  refine pw_aload_n 0 (px_at td_Pl_forget 14 rfl) rfl rfl ?_
  refine pw_getf (v := .inr (some (8, p0.toNatClampNeg, 14))) (px_at td_Pl_forget 15 rfl) lf_Pl_54 hG1 rfl rfl ?_
  refine pw_iconst (v := 1) (px_at td_Pl_forget 16 rfl) (by decide) ?_
  refine pw_sipush (v := 500) (px_at td_Pl_forget 17 rfl) (by decide) ?_
  obtain ⟨σ5, hσ5, h⟩ := px_l_e h
  refine pw_ias (px_at td_Pl_forget 18 rfl) hG2 (px_inL (by decide) px_z1 (by decide)) px_z1 hσ5 ?_
  refine pw_aload_n 0 (px_at td_Pl_forget 19 rfl) rfl rfl ?_
  refine pw_getf (v := .inr (some (8, p0.toNatClampNeg, 14))) (px_at td_Pl_forget 20 rfl) lf_Pl_54 hG1 rfl rfl ?_
  refine pw_iconst (v := 2) (px_at td_Pl_forget 21 rfl) (by decide) ?_
  refine pw_bipush (v := 90) (px_at td_Pl_forget 22 rfl) (by decide) ?_
  obtain ⟨σ6, hσ6, h⟩ := px_l_e h
  refine pw_ias (px_at td_Pl_forget 23 rfl) hG2 (px_inL (by decide) px_z2 (by decide)) px_z2 hσ6 ?_
  refine pw_aload_n 0 (px_at td_Pl_forget 24 rfl) rfl rfl ?_
  refine pw_getf (v := .inr (some (8, p0.toNatClampNeg, 14))) (px_at td_Pl_forget 25 rfl) lf_Pl_54 hG1 rfl rfl ?_
  refine pw_iconst (v := 3) (px_at td_Pl_forget 26 rfl) (by decide) ?_
  refine pw_iconst (v := 1) (px_at td_Pl_forget 27 rfl) (by decide) ?_
  obtain ⟨σ7, hσ7, h⟩ := px_l_e h
  refine pw_ias (px_at td_Pl_forget 28 rfl) hG2 (px_inL (by decide) px_z3 (by decide)) px_z3 hσ7 ?_
  refine pw_aload_n 0 (px_at td_Pl_forget 29 rfl) rfl rfl ?_
  refine pw_getf (v := .inr (some (8, p0.toNatClampNeg, 14))) (px_at td_Pl_forget 30 rfl) lf_Pl_54 hG1 rfl rfl ?_
  refine pw_iconst (v := 4) (px_at td_Pl_forget 31 rfl) (by decide) ?_
  refine pw_iconst (v := 0) (px_at td_Pl_forget 32 rfl) (by decide) ?_
  obtain ⟨σ8, hσ8, h⟩ := px_l_e h
  refine pw_ias (px_at td_Pl_forget 33 rfl) hG2 (px_inL (by decide) px_z4 (by decide)) px_z4 hσ8 ?_
  refine pw_aload_n 0 (px_at td_Pl_forget 34 rfl) rfl rfl ?_
  refine pw_getf (v := .inr (some (8, p0.toNatClampNeg, 14))) (px_at td_Pl_forget 35 rfl) lf_Pl_54 hG1 rfl rfl ?_
  refine pw_iconst (v := 5) (px_at td_Pl_forget 36 rfl) (by decide) ?_
  refine pw_bipush (v := 10) (px_at td_Pl_forget 37 rfl) (by decide) ?_
  obtain ⟨σ9, hσ9, h⟩ := px_l_e h
  refine pw_ias (px_at td_Pl_forget 38 rfl) hG2 (px_inL (by decide) px_z5 (by decide)) px_z5 hσ9 ?_
  refine pw_aload_n 0 (px_at td_Pl_forget 39 rfl) rfl rfl ?_
  refine pw_getf (v := .inr (some (8, p0.toNatClampNeg, 14))) (px_at td_Pl_forget 40 rfl) lf_Pl_54 hG1 rfl rfl ?_
  refine pw_bipush (v := 6) (px_at td_Pl_forget 41 rfl) (by decide) ?_
  refine pw_ldc (v := 99999) (px_at td_Pl_forget 42 rfl) lc_Pl_67 ?_
  obtain ⟨σ10, hσ10, h⟩ := px_l_e h
  refine pw_ias (px_at td_Pl_forget 43 rfl) hG2 (px_inL (by decide) px_z6 (by decide)) px_z6 hσ10 ?_
  refine pw_aload_n 0 (px_at td_Pl_forget 44 rfl) rfl rfl ?_
  refine pw_getf (v := .inr (some (8, p0.toNatClampNeg, 14))) (px_at td_Pl_forget 45 rfl) lf_Pl_54 hG1 rfl rfl ?_
  refine pw_bipush (v := 7) (px_at td_Pl_forget 46 rfl) (by decide) ?_
  refine pw_iconst (v := 0) (px_at td_Pl_forget 47 rfl) (by decide) ?_
  obtain ⟨σ11, hσ11, h⟩ := px_l_e h
  refine pw_ias (px_at td_Pl_forget 48 rfl) hG2 (px_inL (by decide) px_z7 (by decide)) px_z7 hσ11 ?_
  obtain rfl := Option.some.inj h
  exact pw_vret (px_at td_Pl_forget 49 rfl) rfl (Nat.le_refl 0) (Nat.le_refl 0) hR
theorem kG_Pl_forget {l : Launch} {ids : List pxI} {G : pxG} {σ : pxS} {p0 : Int32} {res : pxS} (hG1 : G (1, p0.toNatClampNeg, 0) = cG (1, p0.toNatClampNeg, 0)) (hG2 : G (8, p0.toNatClampNeg, 14) = cG (8, p0.toNatClampNeg, 14)) (h : F_Pl_forget σ p0 = some res) : pm l y_Pl_forget c_Pl_forget 1 none (px_R 1) [.inr (some (1, p0.toNatClampNeg, 0))] ids G σ (px_r none ids G res) :=
  pm_ofF (by decide +kernel) (Nat.le_of_ble_eq_true rfl) (eG_Pl_forget hG1 hG2 h ⟨rfl, rfl, rfl, rfl⟩)
def px_rk (i : pxI) : Prop := i.1 = 5 ∨ i.1 = 6 ∨ i.1 = 12 ∨ ((i.1 = 1 ∨ i.1 = 8) ∧ i.2.1 = 1)
def Re_init_L : (Int32 × pxS) → Option ((Int32 × pxS) ⊕ pxS) := fun s => if 14 ≤ s.1 then some (.inr s.2) else px_b1 (F_Re_lettersOf s.2 s.1) fun r => px_gd s.1 14 (px_l (px_up s.2 (12, 0, 0) s.1.toNatClampNeg r) fun σ' => some (.inl (s.1 + 1, σ')))
def F_Re_init (σ : pxS) : Option pxS := px_l (px_up σ (6, 0, 0) 0 1) fun σ1 => px_it Re_init_L px_N (0, σ1)
def px_ri (ids : List pxI) : List pxI := ids ++ [(1, 1, 0)] ++ [(8, 1, 0)] ++ [(8, 1, 1)] ++ [(8, 1, 2)] ++ [(8, 1, 3)] ++ [(8, 1, 4)] ++ [(8, 1, 5)] ++ [(8, 1, 6)] ++ [(8, 1, 7)] ++ [(8, 1, 8)] ++ [(8, 1, 9)] ++ [(8, 1, 10)] ++ [(8, 1, 11)] ++ [(8, 1, 12)] ++ [(8, 1, 13)] ++ [(8, 1, 14)] ++ [(12, 0, 0)] ++ [(12, 1, 0)] ++ [(12, 2, 0)] ++ [(12, 3, 0)]
set_option maxRecDepth 100000 in
set_option maxHeartbeats 4000000 in
theorem e_Re_loop {l : Launch} {ids : List pxI} {G : pxG} {Rt : Option pxV → List pxI → pxG → pxS → Prop} {n : Nat} {s : Int32 × pxS} {σ' : pxS} (hG : ∀ i, px_rk i → G i = cG i) (h : px_it Re_init_L n s = some σ') (hR : Rt none ids G σ') : pw l (px_Rm 7 20 2347) y_Re_init c_Re_init 3 none 57 ((2, .inl s.1) :: [(0, .inr (some (6, 0, 0))), (1, .inr (some (5, 0, 0)))]) [] ids G s.2 20 2347 Rt := by
  refine px_it_rule (f := Re_init_L) (C := fun s => pw l (px_Rm 7 20 2347) y_Re_init c_Re_init 3 none 57 ((2, .inl s.1) :: [(0, .inr (some (6, 0, 0))), (1, .inr (some (5, 0, 0)))]) [] ids G s.2 20 2347 Rt) (X := fun e => Rt none ids G e) ?_ ?_ n s σ' h hR
  · intro s s1 hf hC
    unfold Re_init_L at hf
    rcases px_ite hf with ⟨_, h⟩ | ⟨hc, h⟩
    · cases h
    · obtain ⟨r, hr, h⟩ := px_b1_e h
      obtain ⟨hi, h⟩ := px_gd_e h
      obtain ⟨σ1, hs, h⟩ := px_l_e h
      cases h
      refine pw_iload_n 0 (px_at td_Re_init 28 rfl) rfl rfl ?_
      refine pw_bipush (v := 14) (px_at td_Re_init 29 rfl) (by decide) ?_
      refine pw_icmp_ge 79 (px_at td_Re_init 30 rfl) (by decide) (fun hn => absurd hn hc) (fun _ => ?_)
      refine pw_aload_n 1 (px_at td_Re_init 31 rfl) rfl rfl ?_
      refine pw_getf (v := .inr (some (12, 0, 0))) (px_at td_Re_init 32 rfl) lf_Re_18 (hG (6, 0, 0) (by simp [px_rk])) rfl rfl ?_
      refine pw_iload_n 0 (px_at td_Re_init 33 rfl) rfl rfl ?_
      refine pw_iload_n 0 (px_at td_Re_init 34 rfl) rfl rfl ?_
      refine pw_cSm [.inl s.1] [.inl s.1, .inr (some (12, 0, 0))] (px_at td_Re_init 35 rfl) lS_Re_35 rfl rfl (Nat.le_of_ble_eq_true rfl) (by decide) (by decide) (k_Re_lettersOf hr) ?_
      refine pw_ias (px_at td_Re_init 36 rfl) (hG (12, 0, 0) (by simp [px_rk])) hi rfl hs ?_
      refine pw_iinc (q := 0) (v := s.1 + 1) (L' := (2, .inl (s.1 + 1)) :: [(0, .inr (some (6, 0, 0))), (1, .inr (some (5, 0, 0)))]) (px_at td_Re_init 37 rfl) rfl rfl (by decide) rfl ?_
      refine pw_goto 57 (px_at td_Re_init 38 rfl) (by decide) ?_
      exact hC
  · intro s e hf hX
    unfold Re_init_L at hf
    rcases px_ite hf with ⟨hc, h⟩ | ⟨hc, h⟩
    · cases h
      refine pw_iload_n 0 (px_at td_Re_init 28 rfl) rfl rfl ?_
      refine pw_bipush (v := 14) (px_at td_Re_init 29 rfl) (by decide) ?_
      refine pw_icmp_ge 79 (px_at td_Re_init 30 rfl) (by decide) (fun _ => ?_) (fun hn => absurd hc hn)
      exact pw_vret (px_at td_Re_init 39 rfl) rfl (by decide) (by decide) hX
    · obtain ⟨r, hr, h⟩ := px_b1_e h
      obtain ⟨hi, h⟩ := px_gd_e h
      obtain ⟨σ1, hs, h⟩ := px_l_e h
      cases h
set_option maxRecDepth 100000 in
set_option maxHeartbeats 4000000 in
theorem k_Re_init {l : Launch} {ids : List pxI} {G : pxG} {σ σ' : pxS} (hG : ∀ i, px_rk i → G i = cG i) (hf : ∀ i, px_rk i → ¬ (i.1 = 6 ∨ i.1 = 5) → i ∉ ids) (hz : ∀ i q, px_rk i → ¬ (i.1 = 6 ∨ i.1 = 5) → σ i q = 0) (h : F_Re_init σ = some σ') : pm l y_Re_init c_Re_init 3 none (px_Rm 7 20 2347) [.inr (some (6, 0, 0)), .inr (some (5, 0, 0))] ids (px_gs G (6, 0, 0) (.inr (.inr (5, [some (.inr none), none, none, some (.inr none), some (.inr none), some (.inr none), some (.inr none), none, some (.inr none), none, none, none, none, none, none])))) σ (px_r none (px_ri ids) G σ') := by
  have hf : ∀ i, px_rk i ∧ ¬ (i.1 = 6 ∨ i.1 = 5) → i ∉ ids := fun i h => hf i h.1 h.2
  have hz : ∀ i q, px_rk i ∧ ¬ (i.1 = 6 ∨ i.1 = 5) → σ i q = 0 := fun i q h => hz i q h.1 h.2
  unfold F_Re_init at h
  obtain ⟨σ1, hs, h⟩ := px_l_e h
  refine pm_ofF (by decide +kernel) (Nat.le_of_ble_eq_true rfl) ?_
  refine pw_aload_n 0 (px_at td_Re_init 0 rfl) rfl rfl ?_
  refine pw_objinit (px_at td_Re_init 1 rfl) lo_Re lo_1 lo_2 (by decide) (Nat.le_of_ble_eq_true rfl) ?_
  refine pw_aload_n 0 (px_at td_Re_init 2 rfl) rfl rfl ?_
  refine pw_new (1, 1, 0) (ci := 1) (sl := [none, none, none, some (.inr none), some (.inr none), some (.inr none), some (.inr none), some (.inr none), some (.inr none), some (.inr none), some (.inr none), some (.inr none), some (.inr none), some (.inr none), some (.inr none), some (.inr none), some (.inr none), some (.inr none)]) (px_at td_Re_init 3 rfl) rfl ln_Re_9 li_Pl lz_Pl (hf _ (by simp [px_rk])) (fun q => hz (1, 1, 0) q (by simp [px_rk])) raw_Pl rfl (by decide) (by decide) ?_
  refine pw_dup (px_at td_Re_init 4 rfl) ?_
  refine pw_cI (1, 1, 0) [] [.inr (some (1, 1, 0)), .inr (some (6, 0, 0))] (px_at td_Re_init 5 rfl) lI_Re_11 rfl rfl (Nat.le_of_ble_eq_true rfl) (by decide) rfl rfl (by decide) (k_Pl_init (fun i h1 h2 => by rw [px_gs_n (fun e => by rw [e] at h1; exact absurd h1 (by simp))]; exact hG i (Or.inr (Or.inr (Or.inr ⟨h1, h2⟩)))) (fun a => by have h0 := hf (8, 1, a) (by simp [px_rk]); simp [h0]) (fun a q => hz _ q (by simp [px_rk]))) ?_
  refine pw_pP 1 [some (.inl 1), none, none, some (.inr none), some (.inr none), some (.inr none), some (.inr none), none, some (.inr none), none, none, none, none, none, none] (px_at td_Re_init 6 rfl) lx_Re_12 rfl (Nat.le_of_ble_eq_true rfl) rfl (by decide +kernel) (px_rok2 _) hs ?_
  refine pw_aload_n 0 (px_at td_Re_init 7 rfl) rfl rfl ?_
  refine pw_bipush (v := 14) (px_at td_Re_init 8 rfl) (by decide) ?_
  refine pw_nI (N := 14) (12, 0, 0) (px_at td_Re_init 9 rfl) (by decide) (by decide +kernel) (by decide) (by have h0 := hf (12, 0, 0) (by simp [px_rk]); simp [h0]) (fun q => by rw [hs, px_up_ne (by simp)]; exact hz (12, 0, 0) q (by simp [px_rk])) ((px_gs_n (by simp)).trans (hG (12, 0, 0) (by simp [px_rk]))) rfl rfl (by decide) (by decide) ?_
  refine pw_pS [some (.inl 1), none, none, some (.inr (some (12, 0, 0))), some (.inr none), some (.inr none), some (.inr none), none, some (.inr none), none, none, none, none, none, none] (px_at td_Re_init 10 rfl) lx_Re_18 rfl (Nat.le_of_ble_eq_true rfl) rfl (px_rok1 _) ?_
  refine pw_aload_n 0 (px_at td_Re_init 11 rfl) rfl rfl ?_
  refine pw_sipush (v := 701) (px_at td_Re_init 12 rfl) (by decide) ?_
  refine pw_nI (N := 701) (12, 1, 0) (px_at td_Re_init 13 rfl) (by decide) (by decide +kernel) (by decide) (by have h0 := hf (12, 1, 0) (by simp [px_rk]); simp [h0]) (fun q => by rw [hs, px_up_ne (by simp)]; exact hz (12, 1, 0) q (by simp [px_rk])) ((px_gs_n (by simp)).trans (hG (12, 1, 0) (by simp [px_rk]))) rfl rfl (by decide) (by decide) ?_
  refine pw_pS [some (.inl 1), none, none, some (.inr (some (12, 0, 0))), some (.inr (some (12, 1, 0))), some (.inr none), some (.inr none), none, some (.inr none), none, none, none, none, none, none] (px_at td_Re_init 14 rfl) lx_Re_22 rfl (Nat.le_of_ble_eq_true rfl) rfl (px_rok1 _) ?_
  refine pw_aload_n 0 (px_at td_Re_init 15 rfl) rfl rfl ?_
  refine pw_sipush (v := 701) (px_at td_Re_init 16 rfl) (by decide) ?_
  refine pw_nI (N := 701) (12, 2, 0) (px_at td_Re_init 17 rfl) (by decide) (by decide +kernel) (by decide) (by have h0 := hf (12, 2, 0) (by simp [px_rk]); simp [h0]) (fun q => by rw [hs, px_up_ne (by simp)]; exact hz (12, 2, 0) q (by simp [px_rk])) ((px_gs_n (by simp)).trans (hG (12, 2, 0) (by simp [px_rk]))) rfl rfl (by decide) (by decide) ?_
  refine pw_pS [some (.inl 1), none, none, some (.inr (some (12, 0, 0))), some (.inr (some (12, 1, 0))), some (.inr (some (12, 2, 0))), some (.inr none), none, some (.inr none), none, none, none, none, none, none] (px_at td_Re_init 18 rfl) lx_Re_25 rfl (Nat.le_of_ble_eq_true rfl) rfl (px_rok1 _) ?_
  refine pw_aload_n 0 (px_at td_Re_init 19 rfl) rfl rfl ?_
  refine pw_sipush (v := 701) (px_at td_Re_init 20 rfl) (by decide) ?_
  refine pw_nI (N := 701) (12, 3, 0) (px_at td_Re_init 21 rfl) (by decide) (by decide +kernel) (by decide) (by have h0 := hf (12, 3, 0) (by simp [px_rk]); simp [h0]) (fun q => by rw [hs, px_up_ne (by simp)]; exact hz (12, 3, 0) q (by simp [px_rk])) ((px_gs_n (by simp)).trans (hG (12, 3, 0) (by simp [px_rk]))) rfl rfl (by decide) (by decide) ?_
  refine pw_pS [some (.inl 1), none, none, some (.inr (some (12, 0, 0))), some (.inr (some (12, 1, 0))), some (.inr (some (12, 2, 0))), some (.inr (some (12, 3, 0))), none, some (.inr none), none, none, none, none, none, none] (px_at td_Re_init 22 rfl) lx_Re_28 rfl (Nat.le_of_ble_eq_true rfl) rfl (px_rok1 _) ?_
  refine pw_aload_n 0 (px_at td_Re_init 23 rfl) rfl rfl ?_
  refine pw_aload_n 1 (px_at td_Re_init 24 rfl) rfl rfl ?_
  refine pw_pS [some (.inl 1), none, none, some (.inr (some (12, 0, 0))), some (.inr (some (12, 1, 0))), some (.inr (some (12, 2, 0))), some (.inr (some (12, 3, 0))), none, some (.inr (some (5, 0, 0))), none, none, none, none, none, none] (px_at td_Re_init 25 rfl) lx_Re_31 rfl (Nat.le_of_ble_eq_true rfl) rfl (px_rok1 _) ?_
  refine pw_Gid (hG (6, 0, 0) (by simp [px_rk])) ?_
  refine pw_iconst (v := 0) (px_at td_Re_init 26 rfl) (by decide) ?_
  refine pw_istore_n (L' := (2, .inl 0) :: [(0, .inr (some (6, 0, 0))), (1, .inr (some (5, 0, 0)))]) (px_at td_Re_init 27 rfl) rfl (by decide) rfl ?_
  exact e_Re_loop (s := (0, σ1)) hG h ⟨rfl, rfl, rfl, rfl⟩
def px_pb (ids : List pxI) : Nat → List pxI
  | 0 => ids
  | m + 1 => px_bl (px_pb ids m ++ [(2, m, 0)]) m
def px_pl (σ : pxS) : Nat → pxS
  | 0 => σ
  | m + 1 => px_up (px_pl σ m) (2, m, 0) 4 (px_pl σ m (0, 0, 0) 6)
def px_on (k : Nat) (ids : List pxI) : Prop := ∀ i, px_bk k i → i ∉ ids
theorem px_on_a {k : Nat} {ids : List pxI} {j : pxI} (h : px_on k ids) (hj : ¬ px_bk k j) : px_on k (ids ++ [j]) := fun i hi hm => by
  rcases List.mem_append.mp hm with hm | hm
  · exact h i hi hm
  · have : i = j := by simpa using hm
    exact hj (this ▸ hi)
theorem px_on_b {k m : Nat} {ids : List pxI} (h : px_on k ids) (hm : m ≠ k) : px_on k (px_bl ids m) := fun i hi hx => by
  rcases px_bl_mem hx with hx | hx
  · exact h i hi hx
  · exact hm (hx.1.symm.trans hi.1)
theorem px_pb_on {ids : List pxI} (h : ∀ k, px_on k ids) : ∀ (m k : Nat), m ≤ k → px_on k (px_pb ids m)
  | 0, k, _ => h k
  | m + 1, k, hk => px_on_b (px_on_a (px_pb_on h m k (by omega)) (fun e => by have : m = k := e.1; omega)) (by omega)
theorem px_pl_ne {σ : pxS} {i : pxI} : ∀ (m : Nat), (∀ j, j < m → i ≠ (2, j, 0)) → px_pl σ m i = σ i
  | 0, _ => rfl
  | m + 1, h => by
    show px_up (px_pl σ m) (2, m, 0) 4 _ i = σ i
    rw [px_up_ne (h m (by omega)), px_pl_ne m (fun j hj => h j (by omega))]
def px_p0 : List pxI := [(0, 0, 0)] ++ [(5, 0, 0)] ++ [(6, 0, 0)]
def px_p1 : List pxI := px_ri px_p0 ++ [(7, 0, 0)] ++ [(1, 0, 0)] ++ [(8, 0, 0)] ++ [(8, 0, 1)] ++ [(8, 0, 2)] ++ [(8, 0, 3)] ++ [(8, 0, 4)] ++ [(8, 0, 5)] ++ [(8, 0, 6)] ++ [(8, 0, 7)] ++ [(8, 0, 8)] ++ [(8, 0, 9)] ++ [(8, 0, 10)] ++ [(8, 0, 11)] ++ [(8, 0, 12)] ++ [(8, 0, 13)] ++ [(8, 0, 14)]
theorem px_p1_on (k : Nat) : px_on k px_p1 := fun i hi hm => by
  simp only [px_p1, px_ri, px_p0, List.mem_append, List.mem_singleton] at hm
  have h2 := hi.2
  simp only [or_assoc] at hm
  rcases hm with hm | hm | hm | hm | hm | hm | hm | hm | hm | hm | hm | hm | hm | hm | hm | hm | hm | hm | hm | hm | hm | hm | hm | hm | hm | hm | hm | hm | hm | hm | hm | hm | hm | hm | hm | hm | hm | hm | hm | hm <;> (rw [hm] at h2; simp at h2)
def F_PR_init (σ : pxS) : Option pxS :=
  px_b1 (F_Re_init σ) fun σ1 =>
  px_l (px_up σ1 (0, 0, 0) 6 0) fun σ2 =>
  px_l (px_up σ2 (0, 0, 0) 9 (-1)) fun σ3 =>
  px_b1 (F_Pl_forget σ3 (σ3 (0, 0, 0) 6)) fun σ4 =>
  some (px_pl σ4 23)
theorem px_pb_f {ids : List pxI} (h : ∀ k, px_on k ids) (m : Nat) : ∀ i, px_bk m i → ¬ i.1 = 2 → i ∉ px_pb ids m ++ [(2, m, 0)] := fun i hi h2 hm => by
  rcases List.mem_append.mp hm with hm | hm
  · exact px_pb_on h m m (Nat.le_refl _) i hi hm
  · have : i = (2, m, 0) := by simpa using hm
    exact h2 (by rw [this])
theorem px_bk_n {m : Nat} {i j : pxI} (h : px_bk m i) (hj : j.1 = 0 ∨ j.1 = 7) : i ≠ j := fun e => by
  have h2 := h.2
  rw [e] at h2
  rcases hj with hj | hj <;> (rw [hj] at h2; simp at h2)
theorem px_pl_z {σ : pxS} (hz : ∀ i, i.1 = 2 ∨ i.1 = 3 ∨ i.1 = 4 ∨ i.1 = 9 ∨ i.1 = 10 ∨ i.1 = 11 → ∀ q, σ i q = 0) (m : Nat) : ∀ (i : pxI) (q : Nat), px_bk m i → px_pl σ m i q = 0 := fun i q hi => by
  rw [px_pl_ne m (fun j hj e => by have h1 := hi.1; rw [e] at h1; have : j = m := h1; omega)]
  exact hz i hi.2 q
set_option maxRecDepth 100000 in
set_option maxHeartbeats 4000000 in
theorem e_PR_loop {l : Launch} {σ4 : pxS} {Rt : Option pxV → List pxI → pxG → pxS → Prop} (hzB : ∀ i, i.1 = 2 ∨ i.1 = 3 ∨ i.1 = 4 ∨ i.1 = 9 ∨ i.1 = 10 ∨ i.1 = 11 → ∀ q, σ4 i q = 0) : ∀ (j i : Nat), i + j = 20 → Rt none (px_pb px_p1 23) cG (px_pl σ4 23) → pw l (px_Rm 8 476 9039) y_PR_init c_PR_init 2 none 107 ((1, .inl (nI i)) :: [(0, .inr (some (0, 0, 0)))]) [] (px_pb px_p1 (i + 3)) (px_gs cG (7, 0, 0) (.inr (.inl (3, 20, px_gk (fun q => (2, q + 3, 0)) i)))) (px_pl σ4 (i + 3)) (96 + 19 * i) (4059 + 249 * i) Rt := by
  intro j
  induction j with
  | zero =>
    intro i hi hR
    have hi : i = 20 := by omega
    subst hi
    refine pw_iload_n 0 (px_at td_PR_init 51 rfl) rfl rfl ?_
    refine pw_bipush (v := 20) (px_at td_PR_init 52 rfl) (by decide) ?_
    refine pw_icmp_ge 136 (px_at td_PR_init 53 rfl) (by decide) (fun _ => ?_) (fun hn => absurd (by decide) hn)
    refine pw_g (i := (7, 0, 0)) (g' := fun q => some (2, q + 3, 0)) px_gs_s (fun q hq => if_pos hq) ?_
    rw [px_gs_gs]
    refine pw_Gid (G := cG) (i := (7, 0, 0)) rfl ?_
    exact pw_vret (px_at td_PR_init 65 rfl) rfl (by decide) (by decide) hR
  | succ j ih =>
    intro i hi hR
    have hlt : i < 20 := by omega
    have hcl : (nI i).toNatClampNeg = i := nI_clamp (by omega)
    refine pw_iload_n 0 (px_at td_PR_init 51 rfl) rfl rfl ?_
    refine pw_bipush (v := 20) (px_at td_PR_init 52 rfl) (by decide) ?_
    refine pw_icmp_ge 136 (px_at td_PR_init 53 rfl) (by decide) (fun hn => absurd hn (nI_ge hlt (by decide))) (fun _ => ?_)
    refine pw_aload_n 1 (px_at td_PR_init 54 rfl) rfl rfl ?_
    refine pw_getf (v := .inr (some (7, 0, 0))) (px_at td_PR_init 55 rfl) lf_PR_24 ((px_gs_n (by simp)).trans rfl) rfl rfl ?_
    refine pw_iload_n 0 (px_at td_PR_init 56 rfl) rfl rfl ?_
    refine pw_new (2, i + 3, 0) (ci := 2) (sl := [some (.inr none), some (.inr none), some (.inr none), some (.inr none), some (.inr none), none, none, none, none, none, none]) (px_at td_PR_init 57 rfl) rfl ln_PR_22 li_Bo lz_Bo (px_pb_on px_p1_on (i + 3) (i + 3) (Nat.le_refl _) _ (by simp [px_bk])) (fun q => px_pl_z hzB (i + 3) _ q (by simp [px_bk])) raw_Bo rfl (by show (96 + 19 * i) + 1 ≤ 476; omega) (by show (4059 + 249 * i) + 11 ≤ 9039; omega) ?_
    refine pw_dup (px_at td_PR_init 58 rfl) ?_
    refine pw_aload_n 1 (px_at td_PR_init 59 rfl) rfl rfl ?_
    refine pw_getf (q := some (.inl 1)) (v := .inr (some (1, (px_pl σ4 (i + 3) (0, 0, 0) 6).toNatClampNeg, 0))) (px_at td_PR_init 60 rfl) lf_PR_31 ((px_gs_n (by simp)).trans rfl) rfl rfl ?_
    refine pw_cI (2, i + 3, 0) [.inr (some (1, (px_pl σ4 (i + 3) (0, 0, 0) 6).toNatClampNeg, 0))] (.inr (some (2, i + 3, 0)) :: [.inl (nI i), .inr (some (7, 0, 0))]) (px_at td_PR_init 61 rfl) lI_PR_42 rfl rfl (Nat.le_of_ble_eq_true rfl) (by decide) rfl rfl (by constructor; show (96 + 19 * i) + 1 + 18 ≤ 476; omega; show (4059 + 249 * i) + 11 + 238 ≤ 9039; omega) (k_Bo_init (fun z hi => by rw [px_gs_n (px_bk_n hi (Or.inr rfl))]) (px_pb_f px_p1_on (i + 3)) (fun z q hi _ => px_pl_z hzB (i + 3) z q hi)) ?_
    refine pw_aast (ci := 2) (N := 20) (t := 3) (px_at td_PR_init 62 rfl) px_gs_s rfl (fun _ => rfl) ((px_gs_n (by simp)).trans rfl) (vp_in_nI hlt (by decide)) (g' := px_gk (fun q => (2, q + 3, 0)) (i + 1)) (by rw [hcl]; exact px_gk_s (fun q => (2, q + 3, 0)) i) ?_
    rw [px_gs_gs]
    refine pw_iinc (q := 0) (v := nI (i + 1)) (L' := (1, .inl (nI (i + 1))) :: [(0, .inr (some (0, 0, 0)))]) (px_at td_PR_init 63 rfl) rfl (nI_1 i) (by decide) rfl ?_
    refine pw_goto 107 (px_at td_PR_init 64 rfl) (by decide) ?_
    refine pw_kn (by show 96 + 19 * (i + 1) = 96 + 19 * i + 1 + 18; omega) (by show 4059 + 249 * (i + 1) = 4059 + 249 * i + 11 + 238; omega) (ih (i + 1) (by omega) hR)
set_option maxRecDepth 100000 in
set_option maxHeartbeats 4000000 in
theorem k_PR_init {l : Launch} {σ σ1 σ2 σ3 σ4 : pxS} (hz : ∀ i q, σ i q = 0) (h1 : F_Re_init σ = some σ1) (hs2 : σ2 = px_up σ1 (0, 0, 0) 6 0) (hs3 : σ3 = px_up σ2 (0, 0, 0) 9 (-1)) (h4 : F_Pl_forget σ3 (σ3 (0, 0, 0) 6) = some σ4) (hz1 : ∀ i, i.1 = 1 ∨ i.1 = 8 → i.2.1 = 0 → ∀ q, σ1 i q = 0) (hzB : ∀ i, i.1 = 2 ∨ i.1 = 3 ∨ i.1 = 4 ∨ i.1 = 9 ∨ i.1 = 10 ∨ i.1 = 11 → ∀ q, σ4 i q = 0) : pm l y_PR_init c_PR_init 2 none (px_Rm 8 476 9039) [.inr (some (0, 0, 0))] [(0, 0, 0)] (px_gs cG (0, 0, 0) (.inr (.inr (0, [some (.inr none), some (.inr none), some (.inr none), some (.inr none), some (.inr none), some (.inr none), some (.inr none), none, none, none, none, none, none])))) σ (px_r none (px_pb px_p1 23) cG (px_pl σ4 23)) := by
  refine pm_ofF (by decide +kernel) (Nat.le_of_ble_eq_true rfl) ?_
  refine pw_aload_n 0 (px_at td_PR_init 0 rfl) rfl rfl ?_
  refine pw_objinit (px_at td_PR_init 1 rfl) lo_PR lo_1 lo_2 (by decide) (Nat.le_of_ble_eq_true rfl) ?_
  refine pw_aload_n 0 (px_at td_PR_init 2 rfl) rfl rfl ?_
  refine pw_sipush (v := 700) (px_at td_PR_init 3 rfl) (by decide) ?_
  refine pw_nB (N := 700) (5, 0, 0) (px_at td_PR_init 4 rfl) (by decide) (by decide +kernel) (by decide) (by decide) (hz _) ((px_gs_n (by simp)).trans rfl) rfl rfl (by decide) (by decide) ?_
  refine pw_pS [some (.inr (some (5, 0, 0))), some (.inr none), some (.inr none), some (.inr none), some (.inr none), some (.inr none), some (.inr none), none, none, none, none, none, none] (px_at td_PR_init 5 rfl) lx_PR_9 rfl (Nat.le_of_ble_eq_true rfl) rfl (px_rok1 _) ?_
  refine pw_aload_n 0 (px_at td_PR_init 6 rfl) rfl rfl ?_
  refine pw_new (6, 0, 0) (ci := 5) (sl := [some (.inr none), none, none, some (.inr none), some (.inr none), some (.inr none), some (.inr none), none, some (.inr none), none, none, none, none, none, none]) (px_at td_PR_init 7 rfl) rfl ln_PR_13 li_Re lz_Re (by decide) (hz _) raw_Re rfl (by decide) (by decide) ?_
  refine pw_dup (px_at td_PR_init 8 rfl) ?_
  refine pw_aload_n 0 (px_at td_PR_init 9 rfl) rfl rfl ?_
  refine pw_getf (v := .inr (some (5, 0, 0))) (px_at td_PR_init 10 rfl) lf_PR_9 ((px_gs_n (by simp)).trans px_gs_s) rfl rfl ?_
  refine pw_cI (6, 0, 0) [.inr (some (5, 0, 0))] [.inr (some (6, 0, 0)), .inr (some (0, 0, 0))] (px_at td_PR_init 11 rfl) lI_PR_15 rfl rfl (Nat.le_of_ble_eq_true rfl) (by decide) rfl rfl (by decide) (k_Re_init (ids := px_p0) (fun i hi => px_gs_n (fun e => by rw [e] at hi; simp [px_rk] at hi)) (fun i hi h2 hm => by simp only [px_p0, List.mem_append, List.mem_singleton] at hm; rcases hm with (hm | hm) | hm; (rw [hm] at hi; simp [px_rk] at hi); (exact h2 (Or.inr (by rw [hm]))); (exact h2 (Or.inl (by rw [hm])))) (fun i q _ _ => hz i q) h1) ?_
  refine pw_pS [some (.inr (some (5, 0, 0))), some (.inr (some (6, 0, 0))), some (.inr none), some (.inr none), some (.inr none), some (.inr none), some (.inr none), none, none, none, none, none, none] (px_at td_PR_init 12 rfl) lx_PR_18 rfl (Nat.le_of_ble_eq_true rfl) rfl (px_rok2 _) ?_
  refine pw_aload_n 0 (px_at td_PR_init 13 rfl) rfl rfl ?_
  refine pw_bipush (v := 20) (px_at td_PR_init 14 rfl) (by decide) ?_
  refine pw_newq (7, 0, 0) (px_at td_PR_init 15 rfl) ln_PR_22 (by decide) (t := 3) (N := 20) (fun _ => rfl) (by decide) (by decide +kernel) (by decide) (by decide) (by decide) (by decide) ?_
  rw [px_gs_c (by simp)]
  refine pw_pS [some (.inr (some (5, 0, 0))), some (.inr (some (6, 0, 0))), some (.inr (some (7, 0, 0))), some (.inr none), some (.inr none), some (.inr none), some (.inr none), none, none, none, none, none, none] (px_at td_PR_init 16 rfl) lx_PR_24 rfl (Nat.le_of_ble_eq_true rfl) rfl (px_rok1 _) ?_
  refine pw_aload_n 0 (px_at td_PR_init 17 rfl) rfl rfl ?_
  refine pw_new (1, 0, 0) (ci := 1) (sl := [none, none, none, some (.inr none), some (.inr none), some (.inr none), some (.inr none), some (.inr none), some (.inr none), some (.inr none), some (.inr none), some (.inr none), some (.inr none), some (.inr none), some (.inr none), some (.inr none), some (.inr none), some (.inr none)]) (px_at td_PR_init 18 rfl) rfl ln_PR_28 li_Pl lz_Pl (by decide) (fun q => hz1 _ (Or.inl rfl) rfl q) raw_Pl rfl (by decide) (by decide) ?_
  refine pw_dup (px_at td_PR_init 19 rfl) ?_
  refine pw_cI (1, 0, 0) [] [.inr (some (1, 0, 0)), .inr (some (0, 0, 0))] (px_at td_PR_init 20 rfl) lI_PR_30 rfl rfl (Nat.le_of_ble_eq_true rfl) (by decide) rfl rfl (by decide) (k_Pl_init (fun i h1 h2 => by rw [px_gs_n (fun e => by rw [e] at h1; exact absurd h1 (by simp)), px_gs_n (fun e => by rw [e] at h1; exact absurd h1 (by simp))]) (fun a => by simp [px_ri, px_p0]) (fun a q => hz1 _ (Or.inr rfl) rfl q)) ?_
  refine pw_pP 0 [some (.inr (some (5, 0, 0))), some (.inr (some (6, 0, 0))), some (.inr (some (7, 0, 0))), some (.inr none), some (.inr none), some (.inr none), some (.inl 1), none, none, none, none, none, none] (px_at td_PR_init 21 rfl) lx_PR_31 rfl (Nat.le_of_ble_eq_true rfl) rfl (by decide +kernel) (px_rok2 _) hs2 ?_
  refine pw_aload_n 0 (px_at td_PR_init 22 rfl) rfl rfl ?_
  refine pw_iconst (v := (-1)) (px_at td_PR_init 23 rfl) (by decide) ?_
  refine pw_puti (px_at td_PR_init 24 rfl) lw_PR_35 px_gs_s rfl (pw_s hs3 ?_)
  refine pw_aload_n 0 (px_at td_PR_init 25 rfl) rfl rfl ?_
  refine pw_getf (v := .inr (some (1, (σ3 (0, 0, 0) 6).toNatClampNeg, 0))) (px_at td_PR_init 26 rfl) lf_PR_31 px_gs_s rfl rfl ?_
  refine pw_cVm (1, (σ3 (0, 0, 0) 6).toNatClampNeg, 0) [] [] (px_at td_PR_init 27 rfl) lV_PR_39 ((px_gs_n (by simp)).trans ((px_gs_n (by simp)).trans rfl)) rfl rfl (Nat.le_of_ble_eq_true rfl) (by decide) (by decide) (kG_Pl_forget ((px_gs_n (by simp)).trans (px_gs_n (by simp))) ((px_gs_n (by simp)).trans (px_gs_n (by simp))) h4) ?_
  refine pw_s (σ' := px_pl σ4 0) rfl ?_
  refine pw_aload_n 0 (px_at td_PR_init 28 rfl) rfl rfl ?_
  refine pw_new (2, 0, 0) (ci := 2) (sl := [some (.inr none), some (.inr none), some (.inr none), some (.inr none), some (.inr none), none, none, none, none, none, none]) (px_at td_PR_init 29 rfl) rfl ln_PR_22 li_Bo lz_Bo (px_pb_on px_p1_on 0 0 (Nat.le_refl _) _ (by simp [px_bk])) (fun q => px_pl_z hzB 0 _ q (by simp [px_bk])) raw_Bo rfl (by show 39 + 1 ≤ 476; omega) (by show 3312 + 11 ≤ 9039; omega) ?_
  refine pw_dup (px_at td_PR_init 30 rfl) ?_
  refine pw_aload_n 0 (px_at td_PR_init 31 rfl) rfl rfl ?_
  refine pw_getf (q := some (.inl 1)) (v := .inr (some (1, (px_pl σ4 0 (0, 0, 0) 6).toNatClampNeg, 0))) (px_at td_PR_init 32 rfl) lf_PR_31 ((px_gs_n (by simp)).trans px_gs_s) rfl rfl ?_
  refine pw_cI (2, 0, 0) [.inr (some (1, (px_pl σ4 0 (0, 0, 0) 6).toNatClampNeg, 0))] (.inr (some (2, 0, 0)) :: [.inr (some (0, 0, 0))]) (px_at td_PR_init 33 rfl) lI_PR_42 rfl rfl (Nat.le_of_ble_eq_true rfl) (by decide) rfl rfl (by constructor; show 39 + 1 + 18 ≤ 476; omega; show 3312 + 11 + 238 ≤ 9039; omega) (k_Bo_init (fun z hi => by rw [px_gs_n (px_bk_n hi (Or.inl rfl)), px_gs_n (px_bk_n hi (Or.inr rfl))]) (px_pb_f px_p1_on 0) (fun z q hi _ => px_pl_z hzB 0 z q hi)) ?_
  refine pw_pS [some (.inr (some (5, 0, 0))), some (.inr (some (6, 0, 0))), some (.inr (some (7, 0, 0))), some (.inr (some (2, 0, 0))), some (.inr none), some (.inr none), some (.inl 1), none, none, none, none, none, none] (px_at td_PR_init 34 rfl) lx_PR_45 rfl (Nat.le_of_ble_eq_true rfl) rfl (px_rok2 _) ?_
  refine pw_aload_n 0 (px_at td_PR_init 35 rfl) rfl rfl ?_
  refine pw_new (2, 1, 0) (ci := 2) (sl := [some (.inr none), some (.inr none), some (.inr none), some (.inr none), some (.inr none), none, none, none, none, none, none]) (px_at td_PR_init 36 rfl) rfl ln_PR_22 li_Bo lz_Bo (px_pb_on px_p1_on 1 1 (Nat.le_refl _) _ (by simp [px_bk])) (fun q => px_pl_z hzB 1 _ q (by simp [px_bk])) raw_Bo rfl (by show 58 + 1 ≤ 476; omega) (by show 3561 + 11 ≤ 9039; omega) ?_
  refine pw_dup (px_at td_PR_init 37 rfl) ?_
  refine pw_aload_n 0 (px_at td_PR_init 38 rfl) rfl rfl ?_
  refine pw_getf (q := some (.inl 1)) (v := .inr (some (1, (px_pl σ4 1 (0, 0, 0) 6).toNatClampNeg, 0))) (px_at td_PR_init 39 rfl) lf_PR_31 ((px_gs_n (by simp)).trans px_gs_s) rfl rfl ?_
  refine pw_cI (2, 1, 0) [.inr (some (1, (px_pl σ4 1 (0, 0, 0) 6).toNatClampNeg, 0))] (.inr (some (2, 1, 0)) :: [.inr (some (0, 0, 0))]) (px_at td_PR_init 40 rfl) lI_PR_42 rfl rfl (Nat.le_of_ble_eq_true rfl) (by decide) rfl rfl (by constructor; show 58 + 1 + 18 ≤ 476; omega; show 3561 + 11 + 238 ≤ 9039; omega) (k_Bo_init (fun z hi => by rw [px_gs_n (px_bk_n hi (Or.inl rfl)), px_gs_n (px_bk_n hi (Or.inr rfl))]) (px_pb_f px_p1_on 1) (fun z q hi _ => px_pl_z hzB 1 z q hi)) ?_
  refine pw_pS [some (.inr (some (5, 0, 0))), some (.inr (some (6, 0, 0))), some (.inr (some (7, 0, 0))), some (.inr (some (2, 0, 0))), some (.inr (some (2, 1, 0))), some (.inr none), some (.inl 1), none, none, none, none, none, none] (px_at td_PR_init 41 rfl) lx_PR_49 rfl (Nat.le_of_ble_eq_true rfl) rfl (px_rok2 _) ?_
  refine pw_aload_n 0 (px_at td_PR_init 42 rfl) rfl rfl ?_
  refine pw_new (2, 2, 0) (ci := 2) (sl := [some (.inr none), some (.inr none), some (.inr none), some (.inr none), some (.inr none), none, none, none, none, none, none]) (px_at td_PR_init 43 rfl) rfl ln_PR_22 li_Bo lz_Bo (px_pb_on px_p1_on 2 2 (Nat.le_refl _) _ (by simp [px_bk])) (fun q => px_pl_z hzB 2 _ q (by simp [px_bk])) raw_Bo rfl (by show 77 + 1 ≤ 476; omega) (by show 3810 + 11 ≤ 9039; omega) ?_
  refine pw_dup (px_at td_PR_init 44 rfl) ?_
  refine pw_aload_n 0 (px_at td_PR_init 45 rfl) rfl rfl ?_
  refine pw_getf (q := some (.inl 1)) (v := .inr (some (1, (px_pl σ4 2 (0, 0, 0) 6).toNatClampNeg, 0))) (px_at td_PR_init 46 rfl) lf_PR_31 ((px_gs_n (by simp)).trans px_gs_s) rfl rfl ?_
  refine pw_cI (2, 2, 0) [.inr (some (1, (px_pl σ4 2 (0, 0, 0) 6).toNatClampNeg, 0))] (.inr (some (2, 2, 0)) :: [.inr (some (0, 0, 0))]) (px_at td_PR_init 47 rfl) lI_PR_42 rfl rfl (Nat.le_of_ble_eq_true rfl) (by decide) rfl rfl (by constructor; show 77 + 1 + 18 ≤ 476; omega; show 3810 + 11 + 238 ≤ 9039; omega) (k_Bo_init (fun z hi => by rw [px_gs_n (px_bk_n hi (Or.inl rfl)), px_gs_n (px_bk_n hi (Or.inr rfl))]) (px_pb_f px_p1_on 2) (fun z q hi _ => px_pl_z hzB 2 z q hi)) ?_
  refine pw_pS [some (.inr (some (5, 0, 0))), some (.inr (some (6, 0, 0))), some (.inr (some (7, 0, 0))), some (.inr (some (2, 0, 0))), some (.inr (some (2, 1, 0))), some (.inr (some (2, 2, 0))), some (.inl 1), none, none, none, none, none, none] (px_at td_PR_init 48 rfl) lx_PR_52 rfl (Nat.le_of_ble_eq_true rfl) rfl (px_rok2 _) ?_
  refine pw_Gid (i := (0, 0, 0)) ((px_gs_n (by simp)).trans rfl) ?_
  refine pw_iconst (v := 0) (px_at td_PR_init 49 rfl) (by decide) ?_
  refine pw_istore_n (L' := (1, .inl (nI 0)) :: [(0, .inr (some (0, 0, 0)))]) (px_at td_PR_init 50 rfl) rfl (by decide) rfl ?_
  exact e_PR_loop hzB 20 0 rfl ⟨rfl, rfl, rfl, rfl⟩
