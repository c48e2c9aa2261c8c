/-! the law's loop: what stands, what lies in the heap, and its rows -/
def lw_ci : List pxI := px_pb px_p1 23
def lw_mi : List pxI := [(0, 0, 0)] ++ [(1, 1, 0)] ++ [(1, 3, 0)] ++ [(1, 4, 0)] ++ [(1, 5, 0)] ++ [(1, 6, 0)] ++ [(1, 7, 0)] ++ [(1, 8, 0)] ++ [(1, 9, 0)] ++ [(1, 10, 0)] ++ [(1, 11, 0)] ++ [(1, 12, 0)] ++ [(1, 13, 0)] ++ [(1, 14, 0)] ++ [(1, 15, 0)] ++ [(1, 26, 0)] ++ [(1, 27, 0)] ++ [(1, 28, 0)] ++ [(1, 29, 0)] ++ [(1, 30, 0)] ++ [(1, 31, 0)] ++ [(1, 34, 0)] ++ [(1, 35, 0)] ++ [(1, 36, 0)] ++ [(1, 37, 0)] ++ [(1, 39, 0)]
theorem lw_mi0 : (0, 0, 0) ∈ lw_mi := by decide
theorem lw_ci0 : (0, 0, 0) ∈ lw_ci := by decide +kernel
def lw_A (s : State) : Nat → Prop := fun q => s.heap.size ≤ q
/-- what never changes: the entry, the classes of the arrays, the texts and the statics, the addresses -/
def lw_F (p : Program) (s : State) (m : MethodId) (meth : Method) (c : Code) (b L : Nat) (xs : Nat → Int32) (D : va_G) (tA : Nat → ClassId) (adC adM : pxI → Nat) (cL : ClassId) (q0 : Nat) : Prop :=
  lw_At p s m meth c b L xs ∧ L ≤ 3072 ∧ va_K D classes (px_tys tA ++ [(cL, .long)]) s ∧ px_E (lw_A s) s s.heap ∧ px_XE (lw_A s) s s.heap ∧ px_dA (lw_A s) adC lw_ci ∧ px_dA (lw_A s) adM lw_mi ∧ lw_A s q0 ∧ (∀ i ∈ lw_ci, ∀ j ∈ lw_mi, adC i ≠ adM j) ∧ (∀ i ∈ lw_ci, q0 ≠ adC i) ∧ ∀ j ∈ lw_mi, q0 ≠ adM j
/-- what lies in the heap: both systems, and the row for answers -/
def lw_H (s : State) (D : va_G) (tA : Nat → ClassId) (adC adM : pxI → Nat) (cL : ClassId) (q0 : Nat) (σ μ : pxS) (g : Nat → Int64) (H : Heap) (locs : List Loc) : Prop :=
  va_P D classes (px_ws adC tA lw_ci cG σ) H ∧ va_P D classes (px_ws adM tA lw_mi mG μ) H ∧ va_P D classes (lr_o q0 cL g) H ∧ va_S (lw_A s) s.heap H locs ∧ px_clo lw_ci cG σ ∧ px_clo lw_mi mG μ
abbrev lw_W (p : Program) (l : Launch) (e : Env) (s : State) (m : MethodId) (below : List Frame) (meth : Method) (c : Code) (b : Nat) (H : Heap) (locs : List Loc) (k n : Nat) (f : JFrame) : Prop := W p l e room_1 s m #[Value.ref b] below meth c H locs k n (lw_Z below #[Value.ref b] s) f
def lw_L (ls : Array Slot) (b : Nat) (adC adM : pxI → Nat) (q0 : Nat) (i : Int32) : Prop := lv_has ls 7 [(0, .ref b), (1, .ref (adC (0, 0, 0))), (2, .ref (adM (0, 0, 0))), (3, .ref q0), (4, .int i)]
section LWX
variable {p : Program} {l : Launch} {e : Env} {s : State} {m : MethodId} {below : List Frame} {meth : Method} {c : Code} {b L : Nat} {xs : Nat → Int32} {D : va_G} {tA : Nat → ClassId} {adC adM : pxI → Nat} {cL : ClassId} {q0 : Nat} {σ μ σ' μ' : pxS} {g : Nat → Int64} {H : Heap} {locs : List Loc} {k n : Nat} {ls : Array Slot} {pc : Nat} {rest : List Value}
theorem lw_F.hts (h : lw_F p s m meth c b L xs D tA adC adM cL q0) : ∀ w ∈ pxW, w.before #[Value.ref b] s = true := fun w hw => h.1.2.2.2.2.2.1 w (pxW_tbl hw)
theorem lw_hA : ∀ q : Nat, s.heap.size ≤ q → lw_A s q := fun q h => h
theorem lw_F.nb (h : lw_F p s m meth c b L xs D tA adC adM cL q0) : ¬ lw_A s b := fun z => absurd h.1.2.2.2.2.2.2.2.1 (Nat.not_lt.mpr z)
/-- a word of the script -/
abbrev lw_dA (pc : Nat) (j : Int) : Prop := decode code pc = .ok (.aload_n 0, 1) ∧ decode code (pc + 1) = .ok (.iload 4, 2) ∧ decode code (pc + 3) = .ok (.iconst j, 1) ∧ decode code (pc + 4) = .ok (.iadd, 1) ∧ decode code (pc + 5) = .ok (.iaload, 1)
theorem lw_in {t L : Nat} (h : t < L) (hL : L ≤ 3072) : vp_in (dn t) L := by
  unfold vp_in
  rw [dn_nat (by omega)]
  rintro (h1 | h1)
  · exact dn_nn (by omega) h1
  · omega
theorem lw_arg {t : Nat} (j : Nat) (hF : lw_F p s m meth c b L xs D tA adC adM cL q0) (hH : lw_H s D tA adC adM cL q0 σ μ g H locs) (hls : lw_L ls b adC adM q0 (dn t)) (ht : t + 6 ≤ L) (hd : lw_dA pc (j : Int)) (hj : j < 6)
    (kk : lw_W p l e s m below meth c b H locs k n (F0 m (pc + 6) ls (.int (xs (t + j)) :: rest))) : lw_W p l e s m below meth c b H locs k n (F0 m pc ls rest) := by
  obtain ⟨hx, hb, hr, hml, hown, hts, hX, hbl, -⟩ := hF.1
  have hL := hF.2.1
  obtain ⟨d1, d2, d3, d4, d5⟩ := hd
  refine lv_aload_n hx hb d1 rfl (lv_at hls 0 rfl) ?_
  refine lv_iload hx hb d2 (lv_at hls 4 rfl) ?_
  refine lv_iconst (v := dn j) hx hb d3 rfl ?_
  refine lv_iadd hx hb d4 ?_
  rw [dn_add]
  have hj2 : t + j < L := by omega
  refine va_sld hx hb hX hbl hF.nb hH.2.2.2.1 (lw_in hj2 hL) d5 ?_
  rw [dn_nat (by omega)]
  exact kk
/-- a call of the class, of the reference -/
theorem lw_cC {idx N d nL' : Nat} {y : MethodName} {cc' : ByteArray} {st0 : List Value} {r : Int32} (as : List Int32) (hF : lw_F p s m meth c b L xs D tA adC adM cL q0) (hH : lw_H s D tA adC adM cL q0 σ μ g H locs) (hls : ls.size = 7)
    (hd : decode code pc = .ok (.invokevirtual idx, 3)) (hw : px_yV "PowerRailsLaw" idx 0 y cc' nL' (some .int) N) (hst : st0 = (as.map Value.int).reverse ++ .ref (adC (0, 0, 0)) :: rest) (hN : as.length = N) (h8 : (rest.map fun v => v.category).sum ≤ 8) (hR : d + 1 ≤ 16 ∧ 8 + (nL' + 11) + 40 * d ≤ 600) (hk : k ≤ 601024 ∧ n ≤ 7293034)
    (hm : pm l y cc' nL' (some .int) (px_R d) (.inr (some (0, 0, 0)) :: as.map Sum.inl) lw_ci cG σ (px_r (some (.inl r)) lw_ci cG σ'))
    (kk : ∀ (H1 : Heap) (locs1 : List Loc), lw_H s D tA adC adM cL q0 σ' μ g H1 locs1 → lw_W p l e s m below meth c b H1 locs1 k n (F0 m (pc + 3) ls (.int r :: rest))) : lw_W p l e s m below meth c b H locs k n (F0 m pc ls st0) := by
  obtain ⟨hx, hb, hr, hml, hown, hts, hX, hbl, -⟩ := hF.1
  obtain ⟨-, hL, hK, hE, hXE, dC, dM, aq, dCM, dqC, dqM⟩ := hF
  obtain ⟨pC, pM, pO, hS, cC, cM⟩ := hH
  refine px_lcall (own := "PowerRailsLaw") (cc := code) (nL := 7) (sl := (cG (0, 0, 0)).elim (fun _ => []) (fun x => x.elim (fun _ => []) (fun z => z.2))) (wr := px_ws adM tA lw_mi mG μ ++ lr_o q0 cL g) as hx hb hml hown (fun w hw => hts w (pxW_tbl hw)) (hK.sub [0, 1, 2, 3, 4] rfl) hE lw_hA pC dC hS cC lw_ci0 (pM.app pO) (fun k q hk i hi => ?_) hd hw rfl hst hN h8 hls hR hk hm fun H1 locs1 h1 h2 h3 h4 => ?_
  · rcases List.mem_append.mp (List.mem_of_getElem? hk) with h | h
    · obtain ⟨z, hz⟩ := List.getElem?_of_mem h
      obtain ⟨j, hj, _, e1⟩ := px_ws_m hz
      rw [e1]
      exact fun z => dCM i hi j hj z.symm
    · cases List.mem_singleton.mp h
      exact dqC i hi
  · refine kk H1 locs1 ⟨h1, fun k q hk => h2 k q ?_, fun k q hk => h2 (lw_mi.length + k) q ?_, h3, h4, cM⟩
    · rw [List.getElem?_append_left (List.getElem?_eq_some_iff.mp hk).1]
      exact hk
    · have e1 : (px_ws adM tA lw_mi mG μ).length = lw_mi.length := by unfold px_ws; rw [List.length_map]
      rw [List.getElem?_append_right (by rw [e1]; exact Nat.le_add_right _ _), e1, Nat.add_sub_cancel_left]
      exact hk
theorem lw_cM {idx N d nL' : Nat} {y : MethodName} {cc' : ByteArray} {st0 : List Value} {r : Int32} (as : List Int32) (hF : lw_F p s m meth c b L xs D tA adC adM cL q0) (hH : lw_H s D tA adC adM cL q0 σ μ g H locs) (hls : ls.size = 7)
    (hd : decode code pc = .ok (.invokevirtual idx, 3)) (hw : px_yV "PowerRailsLaw" idx 6 y cc' nL' (some .int) N) (hst : st0 = (as.map Value.int).reverse ++ .ref (adM (0, 0, 0)) :: rest) (hN : as.length = N) (h8 : (rest.map fun v => v.category).sum ≤ 8) (hR : d + 1 ≤ 16 ∧ 8 + (nL' + 11) + 40 * d ≤ 600) (hk : k ≤ 601024 ∧ n ≤ 7293034)
    (hm : pm l y cc' nL' (some .int) (px_R d) (.inr (some (0, 0, 0)) :: as.map Sum.inl) lw_mi mG μ (px_r (some (.inl r)) lw_mi mG μ'))
    (kk : ∀ (H1 : Heap) (locs1 : List Loc), lw_H s D tA adC adM cL q0 σ μ' g H1 locs1 → lw_W p l e s m below meth c b H1 locs1 k n (F0 m (pc + 3) ls (.int r :: rest))) : lw_W p l e s m below meth c b H locs k n (F0 m pc ls st0) := by
  obtain ⟨hx, hb, hr, hml, hown, hts, hX, hbl, -⟩ := hF.1
  obtain ⟨-, hL, hK, hE, hXE, dC, dM, aq, dCM, dqC, dqM⟩ := hF
  obtain ⟨pC, pM, pO, hS, cC, cM⟩ := hH
  refine px_lcall (own := "PowerRailsLaw") (cc := code) (nL := 7) (sl := (mG (0, 0, 0)).elim (fun _ => []) (fun x => x.elim (fun _ => []) (fun z => z.2))) (wr := px_ws adC tA lw_ci cG σ ++ lr_o q0 cL g) as hx hb hml hown (fun w hw => hts w (pxW_tbl hw)) (hK.sub [0, 1, 2, 3, 4] rfl) hE lw_hA pM dM hS cM lw_mi0 (pC.app pO) (fun k q hk i hi => ?_) hd hw rfl hst hN h8 hls hR hk hm fun H1 locs1 h1 h2 h3 h4 => ?_
  · rcases List.mem_append.mp (List.mem_of_getElem? hk) with h | h
    · obtain ⟨z, hz⟩ := List.getElem?_of_mem h
      obtain ⟨j, hj, _, e1⟩ := px_ws_m hz
      rw [e1]
      exact dCM j hj i hi
    · cases List.mem_singleton.mp h
      exact dqM i hi
  · refine kk H1 locs1 ⟨fun k q hk => h2 k q ?_, h1, fun k q hk => h2 (lw_ci.length + k) q ?_, h3, cC, h4⟩
    · rw [List.getElem?_append_left (List.getElem?_eq_some_iff.mp hk).1]
      exact hk
    · have e1 : (px_ws adC tA lw_ci cG σ).length = lw_ci.length := by unfold px_ws; rw [List.length_map]
      rw [List.getElem?_append_right (by rw [e1]; exact Nat.le_add_right _ _), e1, Nat.add_sub_cancel_left]
      exact hk
/-- both answer alike -/
theorem lw_eq {off : Int} {a a' : Int32} (hF : lw_F p s m meth c b L xs D tA adC adM cL q0) (he : a = a') (hd : decode code pc = .ok (.if_icmp .eq off, 3)) (ht : (pc : Int) + off = ((1208 : Nat) : Int)) (kk : lw_W p l e s m below meth c b H locs k n (F0 m 1208 ls rest)) : lw_W p l e s m below meth c b H locs k n (F0 m pc ls (.int a' :: .int a :: rest)) :=
  lv_icmp_eq hF.1.1 hF.1.2.1 hd ht (fun _ => kk) (fun z => absurd he z)
theorem lw_bool {v : Int32} (hF : lw_F p s m meth c b L xs D tA adC adM cL q0) (h1 : decode code pc = .ok (.ifCond .eq 7, 3)) (h2 : decode code (pc + 3) = .ok (.iconst 1, 1)) (h3 : decode code (pc + 4) = .ok (.goto 4, 3)) (h4 : decode code (pc + 7) = .ok (.iconst 0, 1))
    (kk : lw_W p l e s m below meth c b H locs k n (F0 m (pc + 8) ls (.int (if (!decide (v = 0)) = true then 1 else 0) :: rest))) : lw_W p l e s m below meth c b H locs k n (F0 m pc ls (.int v :: rest)) := by
  have hx := hF.1.1
  have hb := hF.1.2.1
  refine lv_if_eq (tgt := pc + 7) hx hb h1 rfl (fun z => ?_) (fun z => ?_)
  · refine lv_iconst (v := 0) hx hb h4 (by decide) ?_
    rw [if_neg (by rw [decide_eq_true z]; decide)] at kk
    exact kk
  · refine lv_iconst (v := 1) hx hb h2 (by decide) ?_
    refine lv_goto (tgt := pc + 8) hx hb h3 (by show ((pc + 4 : Nat) : Int) + 4 = ((pc + 8 : Nat) : Int); omega) ?_
    rw [if_pos (by rw [decide_eq_false z]; decide)] at kk
    exact kk
end LWX
