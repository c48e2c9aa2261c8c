set_option maxHeartbeats 4000000 in
theorem cx_PR_rail {l : Launch} (hl : l.stackTraces = false) {ids : List pxI} {σ : pxS} {v1 v2 : Int32} (hc : F_PR_isRail σ v1 = some 0 ∨ (F_PR_isRail σ v1 = some 1 ∧ ((dWh v2 = true ∧ ∃ r, F_PR_rail σ v1 v2 = some r) ∨ dWh v2 = false))) (hin : F_PR_isRail σ v1 = some 1 → vp_in v1 12) (D : va_G) (tA : Nat → ClassId) (ad : pxI → Nat) (sz : Nat) :
    vx_Met l y_PR_rail (pxws y_PR_rail c_PR_rail 4 (some .int)) (px_Rm 6 1 6) (px_Px D tA ad ids σ v1 v2 sz) (px_Qc D tA ad ids (px_rR ids σ v1 v2) (va_A (px_ws ad tA ids cG σ) sz)) (px_rX D tA ad ids σ v1 v2 sz) 1 6 (va_A (px_ws ad tA ids cG σ) sz) := by
  refine vx_ofW (cc := c_PR_rail) (maxL := 4) (ret := some .int) (by decide +kernel) rfl ?_
  intro p e s m args below meth c s₁ B hml ht hv
  obtain ⟨⟨rfl, hsz, hP, hK, hD0, hcl, hvv, hE⟩, hXE⟩ := hv
  subst hsz
  have hts0 := atoms_spec (ws := pxws y_PR_rail c_PR_rail 4 (some .int)) B.pre
  have hts : ∀ w ∈ pxW, w.before _ s = true := fun w hw => hts0 w (List.mem_cons_of_mem _ hw)
  have hown : s.vm.findClass R_PR = some m.cls := findClass_of_methodNamed B.named
  have hA : ∀ q : Nat, s.heap.size ≤ q → va_A (px_ws ad tA ids cG σ) s.heap.size q := fun q hq => Or.inr hq
  have hS0 : va_S (va_A (px_ws ad tA ids cG σ) s.heap.size) s.heap s.heap [] := va_S.rf
  have hz : ((0, 0, 0) : pxI) ∈ ids := hvv (.inr (some (0, 0, 0))) List.mem_cons_self _ rfl
  have hdA : px_dA (va_A (px_ws ad tA ids cG σ) s.heap.size) ad ids := px_D_dA hD0.self
  rw [lg_entry_eq]
  have hl0 : lv_has ((lg_sl (([.inr (some (0, 0, 0)), .inl v1, .inl v2] : List pxV).map (px_mv ad)) ++ List.replicate (4 - (lg_sl (([.inr (some (0, 0, 0)), .inl v1, .inl v2] : List pxV).map (px_mv ad))).length) Slot.unset).toArray) 4 (px_ml ad (px_args 0 [.inr (some (0, 0, 0)), .inl v1, .inl v2])) := by rw [px_args_ml]; exact lv_entry _ (by rw [px_sl_len]; exact Nat.le_of_ble_eq_true rfl)
  by_cases hret : F_PR_isRail σ v1 = some 1 ∧ dWh v2 = true
  · obtain ⟨r, hr⟩ : ∃ r, F_PR_rail σ v1 v2 = some r := by
      rcases hc with h | ⟨h, ⟨h2, h3⟩ | h2⟩
      · rw [h] at hret; exact absurd hret.1 (by decide)
      · exact h3
      · rw [h2] at hret; exact absurd hret.2 (by decide)
    exact vx_ret (e_PR_rail (l := l) (Rt := px_rR ids σ v1 v2) hret.1 hr ⟨r, hret.1, hr, rfl, rfl, rfl, rfl⟩ p e s m _ below meth c s.heap [] _ D tA ad ad ids _
      ⟨⟨B.exec, B.bytes, B.returns, hml, (name_of_methodNamed B.named B.method).1, hts, hown, B.notSynchronized, hE, hK⟩,
      ⟨hP, hD0.self, va_S.rf, hcl, hA⟩, hl0, fun q hq => hvv _ (px_args_mem _ 0 q hq), fun v hv => absurd hv List.not_mem_nil, fun i hi => hi, fun i _ => rfl⟩)
  · obtain ⟨r1, hr1, hr2⟩ : ∃ r1, F_PR_isRail σ v1 = some r1 ∧ (r1 = 0 ∨ (r1 = 1 ∧ dWh v2 = false)) := by
      rcases hc with h | ⟨h, ⟨h2, h3⟩ | h2⟩
      · exact ⟨0, h, Or.inl rfl⟩
      · exact absurd ⟨h, h2⟩ hret
      · exact ⟨1, h, Or.inr ⟨rfl, h2⟩⟩
    clear hc hret
    generalize ((lg_sl (([.inr (some (0, 0, 0)), .inl v1, .inl v2] : List pxV).map (px_mv ad)) ++ List.replicate (4 - (lg_sl (([.inr (some (0, 0, 0)), .inl v1, .inl v2] : List pxV).map (px_mv ad))).length) Slot.unset).toArray) = ls at hl0
    have hl0 : lv_has ls 4 [(0, .ref (ad (0, 0, 0))), (1, .int v1), (2, .int v2)] := hl0
    refine lv_aload_n B.exec B.bytes (px_at td_PR_rail 0 rfl) rfl (lv_at hl0 0 rfl) ?_
    refine lv_iload_n B.exec B.bytes (px_at td_PR_rail 1 rfl) rfl (lv_at hl0 1 rfl) ?_
    refine px_lcall (own := R_PR) (d' := 1) (wr := []) [v1] B.exec B.bytes hml hown hts hK hE hA hP hdA hS0 hcl hz (fun k q h => by simp at h) (fun k q h => by simp at h) (px_at td_PR_rail 2 rfl) lV_PR_101 rfl rfl rfl (Nat.le_of_ble_eq_true rfl) hl0.1 ⟨Nat.le_of_ble_eq_true rfl, Nat.le_of_ble_eq_true rfl⟩ ⟨Nat.zero_le _, Nat.zero_le _⟩ (k_PR_isRail hr1) fun H1 locs1 hP1 _ hS1 hcl1 => ?_
    have hXt : ∀ (E : String) (t : State), ((E = "java/lang/IndexOutOfBoundsException" ∧ F_PR_isRail σ v1 = some 0) ∨ (E = "java/util/NoSuchElementException" ∧ F_PR_isRail σ v1 = some 1 ∧ dWh v2 = false)) → s.vm.Alike t.vm → H1.size ≤ t.heap.size → (∀ q : Nat, q < H1.size → t.heap[q]? = H1[q]?) → px_rX D tA ad ids σ v1 v2 s.heap.size E s t := fun E t hE0 _ h1 h2 => by
      refine ⟨hE0, hP1.kept fun k q hq => h2 q.1 ((hP1 k q hq).lt), Nat.le_trans hS1.1 h1, fun q hq hn => ?_⟩
      rw [h2 q (Nat.lt_of_lt_of_le hq hS1.1)]
      exact hS1.2.1 q hq hn
    rcases hr2 with rfl | ⟨rfl, hw2⟩
    · refine lv_if_ne (tgt := 16) B.exec B.bytes (px_at td_PR_rail 3 rfl) (by decide) (fun z => absurd rfl z) (fun _ => ?_)
      exact vx_throw0 (cls := "java/lang/IndexOutOfBoundsException") (names := ["java/lang/RuntimeException", "java/lang/Exception"]) (own := R_PR) (ik := 134) (ic := 136) (A := va_A (px_ws ad tA ids cG σ) s.heap.size) B.exec B.bytes hl hown (by decide +kernel) (by decide +kernel)
        (hts _ (px_w 1041 (by decide +kernel) (by decide +kernel))) (hts _ (px_w 116 (by decide +kernel) (by decide +kernel))) (vx_hat (fun w hw => hts _ (px_xf px_x1 w hw)) px_x3 hXE.w) px_x5 hXE.2.1 hXE.2.2 hS1 (hl0.1.trans hml.symm)
        (px_at td_PR_rail 4 rfl) (px_at td_PR_rail 5 rfl) (px_at td_PR_rail 6 rfl) (px_at td_PR_rail 7 rfl) (fun x hx => absurd hx (fun h => ht x h)) (Nat.le_of_ble_eq_true rfl) (Nat.le_of_ble_eq_true rfl) (Nat.le_of_ble_eq_true rfl) (Nat.le_of_ble_eq_true rfl) B.notSynchronized (fun t h1 h2 h3 => hXt _ t (Or.inl ⟨rfl, hr1⟩) h1 h2 h3) hS1.2.2 (Nat.le_of_ble_eq_true rfl) (Nat.le_of_ble_eq_true rfl)
    · refine lv_if_ne (tgt := 16) B.exec B.bytes (px_at td_PR_rail 3 rfl) (by decide) (fun _ => ?_) (fun z => absurd z (by decide))
      refine lv_aload_n B.exec B.bytes (px_at td_PR_rail 8 rfl) rfl (lv_at hl0 0 rfl) ?_
      refine wx_getf (own := R_PR) (v := .inr (some (2, 1, 0))) B.exec B.bytes hts hown hK hP1 hcl1 hz (px_at td_PR_rail 9 rfl) lf_PR_49 rfl rfl rfl fun w1 => ?_
      refine wx_getf (own := R_PR) (v := .inr (some (9, 1, 0))) B.exec B.bytes hts hown hK hP1 hcl1 (w1 _ rfl) (px_at td_PR_rail 10 rfl) lf_PR_109 rfl rfl rfl fun w2 => ?_
      refine lv_iload_n B.exec B.bytes (px_at td_PR_rail 11 rfl) rfl (lv_at hl0 1 rfl) ?_
      refine wx_aald (r := (3, 1, v1.toNatClampNeg)) B.exec B.bytes hK hP1 (w2 _ rfl) (px_at td_PR_rail 12 rfl) rfl rfl (hin hr1) rfl ?_
      refine lv_astore_n (lv' := [(3, .ref (ad (3, 1, v1.toNatClampNeg))), (0, .ref (ad (0, 0, 0))), (1, .int v1), (2, .int v2)]) B.exec B.bytes (px_at td_PR_rail 13 rfl) rfl hl0 (by decide) rfl fun ls hl0 => ?_
      refine lv_iload_n B.exec B.bytes (px_at td_PR_rail 14 rfl) rfl (lv_at hl0 3 rfl) ?_
      refine lv_tableOut (tgt := 235) B.exec B.bytes (px_at td_PR_rail 15 rfl) (by
        unfold dWh at hw2
        by_cases c1 : (0 : Int32) ≤ v2
        · have c2 : ¬ v2 ≤ 14 := fun z => by rw [decide_eq_true c1, decide_eq_true z] at hw2; exact absurd hw2 (by decide)
          refine Or.inr ?_
          have := Int32.lt_iff_toInt_lt.mp (Int32.not_le.mp c2)
          have e : (14 : Int32).toInt = 14 := by decide
          omega
        · refine Or.inl ?_
          have := Int32.lt_iff_toInt_lt.mp (Int32.not_le.mp c1)
          have e : (0 : Int32).toInt = 0 := by decide
          omega) (by decide) ?_
      exact vx_throw0 (cls := "java/util/NoSuchElementException") (names := ["java/lang/RuntimeException", "java/lang/Exception"]) (own := R_PR) (ik := 174) (ic := 176) (A := va_A (px_ws ad tA ids cG σ) s.heap.size) B.exec B.bytes hl hown (by decide +kernel) (by decide +kernel)
        (hts _ (px_w 1104 (by decide +kernel) (by decide +kernel))) (hts _ (px_w 117 (by decide +kernel) (by decide +kernel))) (vx_hat (fun w hw => hts _ (px_xf px_x2 w hw)) px_x4 hXE.w) px_x6 hXE.2.1 hXE.2.2 hS1 (hl0.1.trans hml.symm)
        (px_at td_PR_rail 92 rfl) (px_at td_PR_rail 93 rfl) (px_at td_PR_rail 94 rfl) (px_at td_PR_rail 95 rfl) (fun x hx => absurd hx (fun h => ht x h)) (Nat.le_of_ble_eq_true rfl) (Nat.le_of_ble_eq_true rfl) (Nat.le_of_ble_eq_true rfl) (Nat.le_of_ble_eq_true rfl) B.notSynchronized (fun t h1 h2 h3 => hXt _ t (Or.inr ⟨rfl, hr1, hw2⟩) h1 h2 h3) hS1.2.2 (Nat.le_of_ble_eq_true rfl) (Nat.le_of_ble_eq_true rfl)
