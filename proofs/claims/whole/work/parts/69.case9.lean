/-! case 9: rail -/
theorem lL_66 : px_yV "PowerRailsLaw" 66 6 y_Mo_rail c_Mo_rail 4 (some .int) 2 := ⟨⟨⟨(px_w 1504 (by decide +kernel) (by decide +kernel)), (px_w 110 (by decide +kernel) (by decide +kernel)), (px_w 1507 (by decide +kernel) (by decide +kernel))⟩, by decide +kernel, by decide +kernel, by decide +kernel⟩, (px_w 1505 (by decide +kernel) (by decide +kernel)), (px_w 1506 (by decide +kernel) (by decide +kernel)), rfl⟩
theorem lL_67 : px_yV "PowerRailsLaw" 67 6 y_Mo_thrown c_Mo_thrown 1 (some .int) 0 := ⟨⟨⟨(px_w 1279 (by decide +kernel) (by decide +kernel)), (px_w 110 (by decide +kernel) (by decide +kernel)), (px_w 1282 (by decide +kernel) (by decide +kernel))⟩, by decide +kernel, by decide +kernel, by decide +kernel⟩, (px_w 1280 (by decide +kernel) (by decide +kernel)), (px_w 1281 (by decide +kernel) (by decide +kernel)), rfl⟩
def lr_post (σ : pxS) (v1 v2 k : Int32) (g' : Nat → Int64) : Prop := (k = 0 ∧ F_PR_isRail σ v1 = some 1 ∧ ∃ r, F_PR_rail σ v1 v2 = some r ∧ g' 0 = r.toInt64) ∨ (k = 1 ∧ F_PR_isRail σ v1 = some 0) ∨ (k = 2 ∧ F_PR_isRail σ v1 = some 1 ∧ dWh v2 = false)
/-- both tell a rail alike -/
theorem lw_rail {σ μ : pxS} (hI : dInv σ μ) (v w : Int32) : (F_PR_isRail σ v = some 0 ∨ (F_PR_isRail σ v = some 1 ∧ ((dWh w = true ∧ ∃ r, F_PR_rail σ v w = some r) ∨ dWh w = false))) ∧ (F_PR_isRail σ v = some 1 → vp_in v 12) ∧
    ∃ rM : Int32 × pxS, F_Mo_rail μ v w = some rM ∧ dInv σ rM.2 ∧ ∀ (k : Int32) (g' : Nat → Int64), lr_post σ v w k g' → rM.2 (0, 0, 0) 0 = k ∧ (k = 0 → g' 0 = rM.1.toInt64) := by
  obtain ⟨P, pp, B, I, hh, ff, h⟩ := hI
  have hn := h.W.wp.n
  have n01 : (some (0 : Int32) : Option Int32) ≠ some 1 := by decide
  refine ⟨?_, fun h1 => ?_, ?_⟩
  · rcases dG_rail h v w with ⟨a, _⟩ | ⟨a, ⟨b1, r, b2, b3, b4, b5⟩ | ⟨b1, _⟩⟩
    · exact Or.inl a
    · exact Or.inr ⟨a, Or.inl ⟨b1, r.1, b4⟩⟩
    · exact Or.inr ⟨a, Or.inr b1⟩
  · rcases dIr h v with ⟨i, hi, rfl, _⟩ | ⟨_, a, _⟩
    · unfold vp_in
      rw [dn_nat (by omega)]
      rintro (z | z)
      · exact dn_nn (by omega) z
      · omega
    · rw [a] at h1
      exact absurd h1 n01
  · rcases dG_rail h v w with ⟨a, r, b2, b3, b4⟩ | ⟨a, ⟨b1, r, b2, b3, b4, b5⟩ | ⟨b1, r, b2, b3, b4⟩⟩
    · refine ⟨r, b2, ⟨P, pp, B, I, hh, ff, b4⟩, fun k g' hp => ?_⟩
      rcases hp with ⟨_, z, _⟩ | ⟨rfl, _⟩ | ⟨_, z, _⟩
      · rw [a] at z; exact absurd z n01
      · exact ⟨b3, fun z => absurd z (by decide)⟩
      · rw [a] at z; exact absurd z n01
    · refine ⟨r, b2, ⟨P, pp, B, I, hh, ff, b5⟩, fun k g' hp => ?_⟩
      rcases hp with ⟨rfl, _, r2, z1, z2⟩ | ⟨_, z⟩ | ⟨_, _, z⟩
      · rw [b4] at z1
        cases z1
        exact ⟨b3, fun _ => z2⟩
      · rw [a] at z; exact absurd z.symm n01
      · rw [b1] at z; exact absurd z (by decide)
    · refine ⟨r, b2, ⟨P, pp, B, I, hh, ff, b4⟩, fun k g' hp => ?_⟩
      rcases hp with ⟨_, _, r2, z1, z2⟩ | ⟨_, z⟩ | ⟨rfl, _⟩
      · exfalso
        have hne : ∀ a, dWh a = true → w ≠ a := fun a ha e => by rw [e, ha] at b1; cases b1
        rw [F_PR_rail, if_neg (hne 0 (by decide)), if_neg (hne 1 (by decide)), if_neg (hne 2 (by decide)), if_neg (hne 3 (by decide)), if_neg (hne 4 (by decide)), if_neg (hne 5 (by decide)), if_neg (hne 6 (by decide)), if_neg (hne 7 (by decide)), if_neg (hne 8 (by decide)), if_neg (hne 9 (by decide)), if_neg (hne 10 (by decide)), if_neg (hne 11 (by decide)), if_neg (hne 12 (by decide)), if_neg (hne 13 (by decide)), if_neg (hne 14 (by decide))] at z1
        unfold px_gd at z1
        split at z1 <;> cases z1
      · rw [a] at z; exact absurd z.symm n01
      · exact ⟨b3, fun z => absurd z (by decide)⟩
section LW9
variable {p : Program} {l : Launch} {e : Env} {s : State} {m : MethodId} {below : List Frame} {meth : Method} {c : Code} {b L : Nat} {xs : Nat → Int32} {D : va_G} {tA : Nat → ClassId} {adC adM : pxI → Nat} {cL : ClassId} {q0 : Nat} {σ μ : pxS} {g : Nat → Int64} {H : Heap} {locs : List Loc} {k n : Nat} {ls : Array Slot} {pc : Nat} {rest : List Value}
theorem lw_rw : GoodIn pxW (va_wsS "PowerRailsLaw" 61 lr_y lr_ws) := fun w hw => by
  have h0 : Cond.codeWith lr_y method_3_code 5 (some .int) lr_hh ∈ pxW := px_w 1034 (by decide +kernel) (by decide +kernel)
  have h1 : Cond.methodLink "PowerRailsLaw" 61 lr_y ∈ pxW := px_w 1032 (by decide +kernel) (by decide +kernel)
  have h2 : Cond.static lr_y ∈ pxW := px_w 1033 (by decide +kernel) (by decide +kernel)
  have h3 : Cond.initialized lr_y.cls ∈ pxW := px_w 99 (by decide +kernel) (by decide +kernel)
  have hm : w ∈ pxW := by
    rcases List.mem_append.mp hw with hw | hw
    · simp only [List.mem_cons, List.not_mem_nil, or_false] at hw
      rcases hw with rfl | rfl | rfl
      · exact h1
      · exact h2
      · exact h3
    · rcases List.mem_cons.mp hw with rfl | hw
      · exact h0
      · exact hw
  exact ⟨hm, pxW_good hm⟩
theorem lw_cR {v1 v2 : Int32} (hl : l.stackTraces = false) (hF : lw_F p s m meth c b L xs D tA adC adM cL q0) (hH : lw_H s D tA adC adM cL q0 σ μ g H locs) (hls : ls.size = 7)
    (hc : F_PR_isRail σ v1 = some 0 ∨ (F_PR_isRail σ v1 = some 1 ∧ ((dWh v2 = true ∧ ∃ r, F_PR_rail σ v1 v2 = some r) ∨ dWh v2 = false))) (hin : F_PR_isRail σ v1 = some 1 → vp_in v1 12)
    (hd : decode code pc = .ok (.invokestatic 61, 3)) (h8 : (rest.map fun v => v.category).sum ≤ 8) (hk : k + 1 ≤ 601024 ∧ n + 6 ≤ 7293034)
    (kk : ∀ (H1 : Heap) (locs1 : List Loc) (r : Int32) (g1 : Nat → Int64), lr_post σ v1 v2 r g1 → lw_H s D tA adC adM cL q0 σ μ g1 H1 locs1 → lw_W p l e s m below meth c b H1 locs1 (k + 1) (n + 6) (F0 m (pc + 3) ls (.int r :: rest))) : lw_W p l e s m below meth c b H locs k n (F0 m pc ls (.ref q0 :: .int v2 :: .int v1 :: .ref (adC (0, 0, 0)) :: rest)) := by
  obtain ⟨hx, hb, hr, hml, hown, hts, hX, hbl, -⟩ := hF.1
  obtain ⟨-, hL, hK, hE, hXE, dC, dM, aq, dCM, dqC, dqM⟩ := hF
  obtain ⟨pC, pM, pO, hS, cC, cM⟩ := hH
  have dD : va_D (lw_A s) (px_ws adC tA lw_ci cG σ) := px_dA_D dC
  have hfree : ∀ q : Nat, (va_A (px_ws adC tA lw_ci cG σ) H.size q ∨ q = q0) → lw_A s q := fun q hq => by
    rcases hq with h | rfl
    · exact px_free dD hS lw_hA q h
    · exact aq
  have hrun := vx_runSW (l := l) (e := e) (R := room_1) (below := below) (meth := meth) (locs := locs) (cells := k) (slots := n) (As := [.ref (adC (0, 0, 0)), .int v1, .int v2, .ref q0]) (rest := rest) (g := F0 m pc ls (.ref q0 :: .int v2 :: .int v1 :: .ref (adC (0, 0, 0)) :: rest)) (n := 4) (own := "PowerRailsLaw") (index := 61) (Ts := pxW) (nL := 7) (bytes := method_3_code) (maxL := 5) (ret := some .int) (hh := lr_hh)
    ⟨hx, hb, hml, hown, fun w hw => hts w (pxW_tbl hw)⟩ (lr_met (A := fun q => va_A (px_ws adC tA lw_ci cG σ) H.size q ∨ q = q0) (D := D) (tA := tA) (ad := adC) (ids := lw_ci) (q0 := q0) (cL := cL) (g := g) (sz := H.size) hl hc hin ⟨dC.1, fun i hi => Or.inl ((px_D_dA dD.self).2 i hi)⟩ (Or.inr rfl) dqC (fun q hq => Or.inl (Or.inr hq)) cC lw_ci0) (vx_cwSW 4 (fun w hw => hts w (pxW_tbl hw)) lw_rw rfl rfl rfl ⟨by decide, by decide, by decide +kernel⟩ ⟨by decide, by decide⟩)
    ⟨lr_blind _ _ _ _ _ _ _ _ _ _ _ _, fun U hU hW => ⟨rfl, by rw [hU], by rw [hU]; exact pC, by rw [hU]; exact pO, va_K.moved hW.alike hK, hE.call hS hfree hW hU, hXE.call hS hfree hW hU⟩⟩ rfl rfl hls rfl (lv_room h8) hd hk
  intro T hT2 XT
  obtain ⟨v, st₀, t, T', L', g0, X', hL', e1, e2, ⟨r, g1, hv, hpost, hP1, hO1, hF1⟩, stp⟩ := hrun T hT2 XT
  have hzz : H.size ≤ T'.heap.size := by rw [e1, ← g0]; exact hF1.1
  have hkp : ∀ q : Nat, q < H.size → ¬ (va_A (px_ws adC tA lw_ci cG σ) H.size q ∨ q = q0) → T'.heap[q]? = H[q]? := fun q h1 h2 => by rw [e1, ← g0]; exact hF1.2 q (by rw [g0]; exact h1) h2
  have hS' : va_S (lw_A s) s.heap T'.heap (locs ++ L') := ⟨Nat.le_trans hS.1 hzz, fun q h1 h2 => by
      rw [hkp q (Nat.lt_of_lt_of_le h1 hS.1) (fun z => h2 (hfree q z))]
      exact hS.2.1 q h1 h2, fun q hq => by
      rcases List.mem_append.mp hq with h | h
      · exact hS.2.2 q h
      · exact hfree _ (hL' q h)⟩
  have pM' : va_P D classes (px_ws adM tA lw_mi mG μ) T'.heap := pM.kept fun k q hq => hkp q.1 ((pM k q hq).lt) (fun hv => by
    obtain ⟨j, hj, _, e4⟩ := px_ws_m hq
    rcases hv with (⟨k2, e2, hv⟩ | hv) | hv
    · obtain ⟨i, hi, _, e3⟩ := px_ws_m hv
      exact dCM i hi j hj (e3.symm.trans e4)
    · exact absurd ((pM k q hq).lt) (Nat.not_lt.mpr hv)
    · exact dqM j hj (hv.symm.trans e4))
  obtain ⟨t2, a1, b1⟩ := kk T'.heap (locs ++ L') r g1 hpost ⟨by rw [e1]; exact hP1, pM', by rw [e1]; exact hO1, hS', cC, cM⟩ T' rfl X'
  cases hv
  exact ⟨t2, stp t2 a1, b1⟩
theorem lw_k9 {t : Nat} (hl : l.stackTraces = false) (hF : lw_F p s m meth c b L xs D tA adC adM cL q0) (hH : lw_H s D tA adC adM cL q0 σ μ g H locs) (hI : dInv σ μ) (hls : lw_L ls b adC adM q0 (dn t)) (ht : t + 6 ≤ L) (hk : k + 1 ≤ 601024 ∧ n + 6 ≤ 7293034)
    (kk : ∀ (H1 : Heap) (locs1 : List Loc) (ls1 : Array Slot) (σ1 μ1 : pxS) (g1 : Nat → Int64), lw_H s D tA adC adM cL q0 σ1 μ1 g1 H1 locs1 → dInv σ1 μ1 → lw_L ls1 b adC adM q0 (dn t) → lw_W p l e s m below meth c b H1 locs1 (k + 1) (n + 6) (F0 m 1208 ls1 [])) : lw_W p l e s m below meth c b H locs k n (F0 m 501 ls []) := by
  obtain ⟨hx, hb, -⟩ := hF.1
  obtain ⟨hc, hin, rM, e1, e2, e3⟩ := lw_rail hI (xs (t + 1)) (xs (t + 2))
  refine lv_aload_n hx hb (show decode code 501 = .ok (.aload_n 1, 1) by decide +kernel) rfl (lv_at hls 1 rfl) ?_
  refine lw_arg (pc := 502) 1 hF hH hls ht (by decide +kernel) (by decide) ?_
  refine lw_arg (pc := 508) 2 hF hH hls ht (by decide +kernel) (by decide) ?_
  refine lv_aload_n hx hb (show decode code 514 = .ok (.aload_n 3, 1) by decide +kernel) rfl (lv_at hls 3 rfl) ?_
  refine lw_cR (pc := 515) hl hF hH hls.1 hc hin (by decide +kernel) (Nat.le_of_ble_eq_true rfl) hk fun H1 locs1 r g1 hpost hH => ?_
  obtain ⟨e4, e5⟩ := e3 r g1 hpost
  refine lv_istore (lv' := [(5, .int r), (0, .ref b), (1, .ref (adC (0, 0, 0))), (2, .ref (adM (0, 0, 0))), (3, .ref q0), (4, .int (dn t))]) hx hb (show decode code 518 = .ok (.istore 5, 2) by decide +kernel) hls (by decide) rfl fun ls hl5 => ?_
  have hls : lw_L ls b adC adM q0 (dn t) := lv_sub hl5 [1, 2, 3, 4, 5] rfl
  refine lv_aload_n hx hb (show decode code 520 = .ok (.aload_n 2, 1) by decide +kernel) rfl (lv_at hls 2 rfl) ?_
  refine lw_arg (pc := 521) 1 hF hH hls ht (by decide +kernel) (by decide) ?_
  refine lw_arg (pc := 527) 2 hF hH hls ht (by decide +kernel) (by decide) ?_
  refine lw_cM (pc := 533) (d := 3) [xs (t + 1), xs (t + 2)] hF hH hls.1 (by decide +kernel) lL_66 rfl rfl (Nat.le_of_ble_eq_true rfl) ⟨by decide, by decide⟩ ⟨by omega, by omega⟩ (k_Mo_rail e1) fun H2 locs2 hH => ?_
  refine lv_istore (lv' := [(6, .int rM.1), (5, .int r), (0, .ref b), (1, .ref (adC (0, 0, 0))), (2, .ref (adM (0, 0, 0))), (3, .ref q0), (4, .int (dn t))]) hx hb (show decode code 536 = .ok (.istore 6, 2) by decide +kernel) hl5 (by decide) rfl fun ls hl6 => ?_
  have hls : lw_L ls b adC adM q0 (dn t) := lv_sub hl6 [2, 3, 4, 5, 6] rfl
  refine lv_aload_n hx hb (show decode code 538 = .ok (.aload_n 2, 1) by decide +kernel) rfl (lv_at hls 2 rfl) ?_
  refine lw_cM (pc := 539) (d := 1) [] hF hH hls.1 (by decide +kernel) lL_67 rfl rfl (Nat.le_of_ble_eq_true rfl) ⟨by decide, by decide⟩ ⟨by omega, by omega⟩ (k_Mo_thrown (res := r) (by rw [← e4]; rfl)) fun H3 locs3 hH => ?_
  refine lv_iload hx hb (show decode code 542 = .ok (.iload 5, 2) by decide +kernel) (lv_at hl6 1 rfl) ?_
  refine lv_icmp_eq (tgt := 549) hx hb (show decode code 544 = .ok (.if_icmp .eq 5, 3) by decide +kernel) (by decide) (fun _ => ?_) (fun z => absurd rfl z)
  refine lv_iload hx hb (show decode code 549 = .ok (.iload 5, 2) by decide +kernel) (lv_at hl6 1 rfl) ?_
  have hend : lw_W p l e s m below meth c b H3 locs3 (k + 1) (n + 6) (F0 m 566 ls []) := lv_goto (tgt := 1208) hx hb (show decode code 566 = .ok (.goto 642, 3) by decide +kernel) (by decide) (kk _ _ _ _ _ _ hH e2 hls)
  refine lv_if_ne (tgt := 566) hx hb (show decode code 551 = .ok (.ifCond .ne 15, 3) by decide +kernel) (by decide) (fun _ => hend) (fun z => ?_)
  have hg := e5 z
  refine lv_aload_n hx hb (show decode code 554 = .ok (.aload_n 3, 1) by decide +kernel) rfl (lv_at hls 3 rfl) ?_
  refine lv_iconst (v := 0) hx hb (show decode code 555 = .ok (.iconst 0, 1) by decide +kernel) (by decide) ?_
  refine va_lald hx hb hF.2.2.1 hH.2.2.1 0 5 rfl rfl (by unfold vp_in; decide) (show decode code 556 = .ok (.laload, 1) by decide +kernel) ?_
  refine lv_iload hx hb (show decode code 557 = .ok (.iload 6, 2) by decide +kernel) (lv_at hl6 0 rfl) ?_
  refine lv_i2l (v := rM.1.toInt64) hx hb (show decode code 559 = .ok (.i2l, 1) by decide +kernel) rfl ?_
  refine W.lcmp hx hb (show decode code 560 = .ok (.lcmp, 1) by decide +kernel) ?_
  have hz : lg_cmp (g1 (Int32.toNatClampNeg 0)) rM.1.toInt64 = 0 := by
    have h0 : Int32.toNatClampNeg 0 = 0 := by decide
    rw [h0, hg]
    simp [lg_cmp]
  rw [hz]
  exact lv_if_eq (tgt := 566) hx hb (show decode code 561 = .ok (.ifCond .eq 5, 3) by decide +kernel) (by decide) (fun _ => hend) (fun z => absurd rfl z)
end LW9
