/-! Mo_asks -/
def Mo_asks_n93 (σ : pxS) (v1 : Int32) : Option (pxS) :=
  px_b1 (F_Mo_hangOn σ v1) fun r9 =>
  px_b1 (F_Mo_unwinds σ ((1 <<< (v1 &&& 31)) ||| r9) (-1)) fun σ10 =>
  some σ10
set_option maxRecDepth 100000 in
theorem Mo_asks_n93_l {l : Launch} {ids : List pxI} {Rt : Option pxV → List pxI → pxG → pxS → Prop} {σ : pxS} {v1 : Int32} {res : pxS} (h : Mo_asks_n93 σ v1 = some res) (hR : Rt none ids mG res) : pw l (px_R 5) y_Mo_asks c_Mo_asks 3 none 93 [(0, .inr (some (0, 0, 0))), (1, .inl v1)] [] ids mG σ 0 0 Rt := by
  unfold Mo_asks_n93 at h
  refine pw_aload_n 0 (px_at td_Mo_asks 57 rfl) rfl rfl ?_
  refine pw_iconst (v := 1) (px_at td_Mo_asks 58 rfl) (by decide) ?_
  refine pw_iload_n 1 (px_at td_Mo_asks 59 rfl) rfl rfl ?_
  refine pw_ishl (px_at td_Mo_asks 60 rfl) ?_
  refine pw_aload_n 0 (px_at td_Mo_asks 61 rfl) rfl rfl ?_
  refine pw_iload_n 1 (px_at td_Mo_asks 62 rfl) rfl rfl ?_
  obtain ⟨r9, hk9, h⟩ := px_b1_e h
  refine pw_cV1 (0, 0, 0) [.inl v1] [.inl (1 <<< (v1 &&& 31)), .inr (some (0, 0, 0))] (px_at td_Mo_asks 63 rfl) lV_Mo_250 rfl rfl rfl (Nat.le_of_ble_eq_true rfl) (by decide) (k_Mo_hangOn hk9) ?_
  refine pw_ior (px_at td_Mo_asks 64 rfl) ?_
  refine pw_iconst (v := (-1)) (px_at td_Mo_asks 65 rfl) (by decide) ?_
  obtain ⟨σ10, hk10, h⟩ := px_b1_e h
  refine pw_cV0 (0, 0, 0) [.inl ((1 <<< (v1 &&& 31)) ||| r9), .inl (-1)] [] (px_at td_Mo_asks 66 rfl) lV_Mo_253 rfl rfl rfl (Nat.le_of_ble_eq_true rfl) (by decide) (k_Mo_unwinds hk10) ?_
  obtain rfl := Option.some.inj h
  exact pw_vret (px_at td_Mo_asks 67 rfl) rfl (Nat.le_refl 0) (Nat.le_refl 0) hR
def F_Mo_asks (σ : pxS) (v1 : Int32) (v2 : Int32) : Option (pxS) :=
  px_gd ((13 * v1) + 10) 308 (px_l (px_up σ (1, 28, 0) ((13 * v1) + 10).toNatClampNeg 0) fun σ2 =>
  px_gd ((13 * v1) + 11) 308 (px_l (px_up σ2 (1, 28, 0) ((13 * v1) + 11).toNatClampNeg 0) fun σ4 =>
  px_gd ((13 * v1) + 12) 308 (px_l (px_up σ4 (1, 28, 0) ((13 * v1) + 12).toNatClampNeg 0) fun σ6 =>
  (if v2 = 0 then px_b1 (F_Mo_waitsNow σ6 v1) fun σ17 =>
  some σ17 else px_b1 (F_Mo_state σ6 v1) fun r7 =>
  (if r7 = 1 then px_b1 (F_Mo_state_ σ6 v1 0) fun σ14 =>
  px_b1 (F_Mo_goesOut σ14 156 v1) fun σ15 =>
  some σ15 else px_b1 (F_Mo_state σ6 v1) fun r8 =>
  (if r8 = 2 then Mo_asks_n93 σ6 v1 else px_b1 (F_Mo_state σ6 v1) fun r11 =>
  (if r11 = 3 then Mo_asks_n93 σ6 v1 else some σ6)))))))
set_option maxRecDepth 100000 in
theorem e_Mo_asks {l : Launch} {ids : List pxI} {Rt : Option pxV → List pxI → pxG → pxS → Prop} {σ : pxS} {v1 : Int32} {v2 : Int32} {res : pxS} (h : F_Mo_asks σ v1 v2 = some res) (hR : Rt none ids mG res) : pw l (px_R 5) y_Mo_asks c_Mo_asks 3 none 0 [(0, .inr (some (0, 0, 0))), (1, .inl v1), (2, .inl v2)] [] ids mG σ 0 0 Rt := by
  unfold F_Mo_asks at h
  refine pw_aload_n 0 (px_at td_Mo_asks 0 rfl) rfl rfl ?_
  refine pw_getf (v := .inr (some (1, 28, 0))) (px_at td_Mo_asks 1 rfl) lf_Mo_63 rfl rfl rfl ?_
  refine pw_bipush (v := 13) (px_at td_Mo_asks 2 rfl) (by decide) ?_
  refine pw_iload_n 1 (px_at td_Mo_asks 3 rfl) rfl rfl ?_
  refine pw_imul (px_at td_Mo_asks 4 rfl) ?_
  refine pw_bipush (v := 10) (px_at td_Mo_asks 5 rfl) (by decide) ?_
  refine pw_iadd (px_at td_Mo_asks 6 rfl) ?_
  refine pw_iconst (v := 0) (px_at td_Mo_asks 7 rfl) (by decide) ?_
  obtain ⟨hi1, h⟩ := px_gd_e h
  obtain ⟨σ2, hσ2, h⟩ := px_l_e h
  refine pw_ias (px_at td_Mo_asks 8 rfl) rfl hi1 rfl hσ2 ?_
  refine pw_aload_n 0 (px_at td_Mo_asks 9 rfl) rfl rfl ?_
  refine pw_getf (v := .inr (some (1, 28, 0))) (px_at td_Mo_asks 10 rfl) lf_Mo_63 rfl rfl rfl ?_
  refine pw_bipush (v := 13) (px_at td_Mo_asks 11 rfl) (by decide) ?_
  refine pw_iload_n 1 (px_at td_Mo_asks 12 rfl) rfl rfl ?_
  refine pw_imul (px_at td_Mo_asks 13 rfl) ?_
  refine pw_bipush (v := 11) (px_at td_Mo_asks 14 rfl) (by decide) ?_
  refine pw_iadd (px_at td_Mo_asks 15 rfl) ?_
  refine pw_iconst (v := 0) (px_at td_Mo_asks 16 rfl) (by decide) ?_
  obtain ⟨hi3, h⟩ := px_gd_e h
  obtain ⟨σ4, hσ4, h⟩ := px_l_e h
  refine pw_ias (px_at td_Mo_asks 17 rfl) rfl hi3 rfl hσ4 ?_
  refine pw_aload_n 0 (px_at td_Mo_asks 18 rfl) rfl rfl ?_
  refine pw_getf (v := .inr (some (1, 28, 0))) (px_at td_Mo_asks 19 rfl) lf_Mo_63 rfl rfl rfl ?_
  refine pw_bipush (v := 13) (px_at td_Mo_asks 20 rfl) (by decide) ?_
  refine pw_iload_n 1 (px_at td_Mo_asks 21 rfl) rfl rfl ?_
  refine pw_imul (px_at td_Mo_asks 22 rfl) ?_
  refine pw_bipush (v := 12) (px_at td_Mo_asks 23 rfl) (by decide) ?_
  refine pw_iadd (px_at td_Mo_asks 24 rfl) ?_
  refine pw_iconst (v := 0) (px_at td_Mo_asks 25 rfl) (by decide) ?_
  obtain ⟨hi5, h⟩ := px_gd_e h
  obtain ⟨σ6, hσ6, h⟩ := px_l_e h
  refine pw_ias (px_at td_Mo_asks 26 rfl) rfl hi5 rfl hσ6 ?_
  refine pw_iload_n 2 (px_at td_Mo_asks 27 rfl) rfl rfl ?_
  rcases px_ite h with ⟨hc18, h⟩ | ⟨hc18, h⟩
  · refine pw_if_ne 49 (px_at td_Mo_asks 28 rfl) (by decide) (fun hn => absurd hc18 hn) (fun _ => ?_)
    refine pw_aload_n 0 (px_at td_Mo_asks 29 rfl) rfl rfl ?_
    refine pw_iload_n 1 (px_at td_Mo_asks 30 rfl) rfl rfl ?_
    obtain ⟨σ17, hk17, h⟩ := px_b1_e h
    refine pw_cV0 (0, 0, 0) [.inl v1] [] (px_at td_Mo_asks 31 rfl) lV_Mo_247 rfl rfl rfl (Nat.le_of_ble_eq_true rfl) (by decide) (k_Mo_waitsNow hk17) ?_
    obtain rfl := Option.some.inj h
    exact pw_vret (px_at td_Mo_asks 32 rfl) rfl (Nat.le_refl 0) (Nat.le_refl 0) hR
  · refine pw_if_ne 49 (px_at td_Mo_asks 28 rfl) (by decide) (fun _ => ?_) (fun hn => absurd hn hc18)
    refine pw_aload_n 0 (px_at td_Mo_asks 33 rfl) rfl rfl ?_
    refine pw_iload_n 1 (px_at td_Mo_asks 34 rfl) rfl rfl ?_
    obtain ⟨r7, hk7, h⟩ := px_b1_e h
    refine pw_cV1 (0, 0, 0) [.inl v1] [] (px_at td_Mo_asks 35 rfl) lV_Mo_230 rfl rfl rfl (Nat.le_of_ble_eq_true rfl) (by decide) (k_Mo_state hk7) ?_
    refine pw_iconst (v := 1) (px_at td_Mo_asks 36 rfl) (by decide) ?_
    rcases px_ite h with ⟨hc16, h⟩ | ⟨hc16, h⟩
    · refine pw_icmp_ne 75 (px_at td_Mo_asks 37 rfl) (by decide) (fun hn => absurd hc16 hn) (fun _ => ?_)
      refine pw_aload_n 0 (px_at td_Mo_asks 38 rfl) rfl rfl ?_
      refine pw_iload_n 1 (px_at td_Mo_asks 39 rfl) rfl rfl ?_
      refine pw_iconst (v := 0) (px_at td_Mo_asks 40 rfl) (by decide) ?_
      obtain ⟨σ14, hk14, h⟩ := px_b1_e h
      refine pw_cV0 (0, 0, 0) [.inl v1, .inl 0] [] (px_at td_Mo_asks 41 rfl) lV_Mo_236 rfl rfl rfl (Nat.le_of_ble_eq_true rfl) (by decide) (k_Mo_state_ hk14) ?_
      refine pw_aload_n 0 (px_at td_Mo_asks 42 rfl) rfl rfl ?_
      refine pw_sipush (v := 156) (px_at td_Mo_asks 43 rfl) (by decide) ?_
      refine pw_iload_n 1 (px_at td_Mo_asks 44 rfl) rfl rfl ?_
      obtain ⟨σ15, hk15, h⟩ := px_b1_e h
      refine pw_cV0 (0, 0, 0) [.inl 156, .inl v1] [] (px_at td_Mo_asks 45 rfl) lV_Mo_238 rfl rfl rfl (Nat.le_of_ble_eq_true rfl) (by decide) (k_Mo_goesOut hk15) ?_
      refine pw_goto 107 (px_at td_Mo_asks 46 rfl) (by decide) ?_
      obtain rfl := Option.some.inj h
      exact pw_vret (px_at td_Mo_asks 67 rfl) rfl (Nat.le_refl 0) (Nat.le_refl 0) hR
    · refine pw_icmp_ne 75 (px_at td_Mo_asks 37 rfl) (by decide) (fun _ => ?_) (fun hn => absurd hn hc16)
      refine pw_aload_n 0 (px_at td_Mo_asks 47 rfl) rfl rfl ?_
      refine pw_iload_n 1 (px_at td_Mo_asks 48 rfl) rfl rfl ?_
      obtain ⟨r8, hk8, h⟩ := px_b1_e h
      refine pw_cV1 (0, 0, 0) [.inl v1] [] (px_at td_Mo_asks 49 rfl) lV_Mo_230 rfl rfl rfl (Nat.le_of_ble_eq_true rfl) (by decide) (k_Mo_state hk8) ?_
      refine pw_iconst (v := 2) (px_at td_Mo_asks 50 rfl) (by decide) ?_
      rcases px_ite h with ⟨hc13, h⟩ | ⟨hc13, h⟩
      · refine pw_icmp_eq 93 (px_at td_Mo_asks 51 rfl) (by decide) (fun _ => ?_) (fun hn => absurd hc13 hn)
        refine pw_L [(0, .inr (some (0, 0, 0))), (1, .inl v1)] [0, 1] rfl ?_
        exact Mo_asks_n93_l h hR
      · refine pw_icmp_eq 93 (px_at td_Mo_asks 51 rfl) (by decide) (fun hn => absurd hn hc13) (fun _ => ?_)
        refine pw_aload_n 0 (px_at td_Mo_asks 52 rfl) rfl rfl ?_
        refine pw_iload_n 1 (px_at td_Mo_asks 53 rfl) rfl rfl ?_
        obtain ⟨r11, hk11, h⟩ := px_b1_e h
        refine pw_cV1 (0, 0, 0) [.inl v1] [] (px_at td_Mo_asks 54 rfl) lV_Mo_230 rfl rfl rfl (Nat.le_of_ble_eq_true rfl) (by decide) (k_Mo_state hk11) ?_
        refine pw_iconst (v := 3) (px_at td_Mo_asks 55 rfl) (by decide) ?_
        rcases px_ite h with ⟨hc12, h⟩ | ⟨hc12, h⟩
        · refine pw_icmp_ne 107 (px_at td_Mo_asks 56 rfl) (by decide) (fun hn => absurd hc12 hn) (fun _ => ?_)
          refine pw_L [(0, .inr (some (0, 0, 0))), (1, .inl v1)] [0, 1] rfl ?_
          exact Mo_asks_n93_l h hR
        · refine pw_icmp_ne 107 (px_at td_Mo_asks 56 rfl) (by decide) (fun _ => ?_) (fun hn => absurd hn hc12)
          obtain rfl := Option.some.inj h
          exact pw_vret (px_at td_Mo_asks 67 rfl) rfl (Nat.le_refl 0) (Nat.le_refl 0) hR
theorem k_Mo_asks {l : Launch} {ids : List pxI} {σ : pxS} {v1 : Int32} {v2 : Int32} {res : pxS} (h : F_Mo_asks σ v1 v2 = some res) : pm l y_Mo_asks c_Mo_asks 3 none (px_R 5) [.inr (some (0, 0, 0)), .inl v1, .inl v2] ids mG σ (px_r none ids mG res) :=
  pm_ofF (by decide +kernel) (Nat.le_of_ble_eq_true rfl) (e_Mo_asks h ⟨rfl, rfl, rfl, rfl⟩)
/-! Mo_comeAgain -/
def Mo_comeAgain_n103 (σ : pxS) (v1 : Int32) : Option ((Int32 × pxS) ⊕ (pxS)) :=
  some (.inl ((v1 + 1), σ))
set_option maxRecDepth 100000 in
theorem Mo_comeAgain_n103_l {l : Launch} {ids : List pxI} {Rt : Option pxV → List pxI → pxG → pxS → Prop} {σ : pxS} {v1 : Int32} {o : (Int32 × pxS) ⊕ (pxS)} (h : Mo_comeAgain_n103 σ v1 = some o) (hC : ∀ s, o = .inl s → pw l (px_R 3) y_Mo_comeAgain c_Mo_comeAgain 2 none 2 [(0, .inr (some (0, 0, 0))), (1, .inl s.1)] [] ids mG s.2 0 0 Rt) (hX0 : ∀ e, o = .inr e → pw l (px_R 3) y_Mo_comeAgain c_Mo_comeAgain 2 none 109 [] [] ids mG e 0 0 Rt) : pw l (px_R 3) y_Mo_comeAgain c_Mo_comeAgain 2 none 103 [(0, .inr (some (0, 0, 0))), (1, .inl v1)] [] ids mG σ 0 0 Rt := by
  unfold Mo_comeAgain_n103 at h
  refine pw_iinc (q := 1) (v := (v1 + 1)) (L' := [(1, .inl (v1 + 1)), (0, .inr (some (0, 0, 0)))]) (px_at td_Mo_comeAgain 62 rfl) rfl rfl (by decide) rfl ?_
  refine pw_goto 2 (px_at td_Mo_comeAgain 63 rfl) (by decide) ?_
  refine pw_L [(0, .inr (some (0, 0, 0))), (1, .inl (v1 + 1))] [1, 0] rfl ?_
  exact hC ((v1 + 1), σ) (Option.some.inj h).symm
def Mo_comeAgain_n2 (σ : pxS) (v1 : Int32) : Option ((Int32 × pxS) ⊕ (pxS)) :=
  px_b1 (F_Mo_rails σ ) fun r1 =>
  (if r1 ≤ v1 then some (.inr σ) else px_gd ((13 * v1) + 10) 308 ((if (σ (1, 28, 0) ((13 * v1) + 10).toNatClampNeg) = 0 then Mo_comeAgain_n103 σ v1 else px_gd ((13 * v1) + 10) 308 ((if (σ (1, 28, 0) ((13 * v1) + 10).toNatClampNeg) = (σ (1, 28, 0) 182) then px_gd ((13 * v1) + 10) 308 (px_l (px_up σ (1, 28, 0) ((13 * v1) + 10).toNatClampNeg 0) fun σ5 =>
  px_b1 (F_Mo_state σ5 v1) fun r6 =>
  (if r6 = 0 then px_b1 (F_Mo_waitsNow σ5 v1) fun σ7 =>
  px_gd ((13 * v1) + 11) 308 (px_gd ((13 * v1) + 11) 308 (px_l (px_up σ7 (1, 28, 0) ((13 * v1) + 11).toNatClampNeg ((σ7 (1, 28, 0) ((13 * v1) + 11).toNatClampNeg) + 1)) fun σ10 =>
  px_b1 (F_Mo_logs σ10 v1 7) fun σ11 =>
  Mo_comeAgain_n103 σ11 v1)) else Mo_comeAgain_n103 σ5 v1)) else Mo_comeAgain_n103 σ v1)))))
set_option maxRecDepth 100000 in
theorem Mo_comeAgain_n2_l {l : Launch} {ids : List pxI} {Rt : Option pxV → List pxI → pxG → pxS → Prop} {σ : pxS} {v1 : Int32} {o : (Int32 × pxS) ⊕ (pxS)} (h : Mo_comeAgain_n2 σ v1 = some o) (hC : ∀ s, o = .inl s → pw l (px_R 3) y_Mo_comeAgain c_Mo_comeAgain 2 none 2 [(0, .inr (some (0, 0, 0))), (1, .inl s.1)] [] ids mG s.2 0 0 Rt) (hX0 : ∀ e, o = .inr e → pw l (px_R 3) y_Mo_comeAgain c_Mo_comeAgain 2 none 109 [] [] ids mG e 0 0 Rt) : pw l (px_R 3) y_Mo_comeAgain c_Mo_comeAgain 2 none 2 [(0, .inr (some (0, 0, 0))), (1, .inl v1)] [] ids mG σ 0 0 Rt := by
  unfold Mo_comeAgain_n2 at h
  refine pw_iload_n 1 (px_at td_Mo_comeAgain 2 rfl) rfl rfl ?_
  refine pw_aload_n 0 (px_at td_Mo_comeAgain 3 rfl) rfl rfl ?_
  obtain ⟨r1, hk1, h⟩ := px_b1_e h
  refine pw_cV1 (0, 0, 0) [] [.inl v1] (px_at td_Mo_comeAgain 4 rfl) lV_Mo_223 rfl rfl rfl (Nat.le_of_ble_eq_true rfl) (by decide) (k_Mo_rails hk1) ?_
  rcases px_ite h with ⟨hc15, h⟩ | ⟨hc15, h⟩
  · refine pw_icmp_ge 109 (px_at td_Mo_comeAgain 5 rfl) (by decide) (fun _ => ?_) (fun hn => absurd hc15 hn)
    refine pw_L [] [] rfl ?_
    exact hX0 σ (Option.some.inj h).symm
  · refine pw_icmp_ge 109 (px_at td_Mo_comeAgain 5 rfl) (by decide) (fun hn => absurd hn hc15) (fun _ => ?_)
    refine pw_aload_n 0 (px_at td_Mo_comeAgain 6 rfl) rfl rfl ?_
    refine pw_getf (v := .inr (some (1, 28, 0))) (px_at td_Mo_comeAgain 7 rfl) lf_Mo_63 rfl rfl rfl ?_
    refine pw_bipush (v := 13) (px_at td_Mo_comeAgain 8 rfl) (by decide) ?_
    refine pw_iload_n 1 (px_at td_Mo_comeAgain 9 rfl) rfl rfl ?_
    refine pw_imul (px_at td_Mo_comeAgain 10 rfl) ?_
    refine pw_bipush (v := 10) (px_at td_Mo_comeAgain 11 rfl) (by decide) ?_
    refine pw_iadd (px_at td_Mo_comeAgain 12 rfl) ?_
    obtain ⟨hi2, h⟩ := px_gd_e h
    refine pw_ial (px_at td_Mo_comeAgain 13 rfl) rfl hi2 rfl ?_
    rcases px_ite h with ⟨hc14, h⟩ | ⟨hc14, h⟩
    · refine pw_if_eq 103 (px_at td_Mo_comeAgain 14 rfl) (by decide) (fun _ => ?_) (fun hn => absurd hc14 hn)
      exact Mo_comeAgain_n103_l h hC hX0
    · refine pw_if_eq 103 (px_at td_Mo_comeAgain 14 rfl) (by decide) (fun hn => absurd hn hc14) (fun _ => ?_)
      refine pw_aload_n 0 (px_at td_Mo_comeAgain 15 rfl) rfl rfl ?_
      refine pw_getf (v := .inr (some (1, 28, 0))) (px_at td_Mo_comeAgain 16 rfl) lf_Mo_63 rfl rfl rfl ?_
      refine pw_bipush (v := 13) (px_at td_Mo_comeAgain 17 rfl) (by decide) ?_
      refine pw_iload_n 1 (px_at td_Mo_comeAgain 18 rfl) rfl rfl ?_
      refine pw_imul (px_at td_Mo_comeAgain 19 rfl) ?_
      refine pw_bipush (v := 10) (px_at td_Mo_comeAgain 20 rfl) (by decide) ?_
      refine pw_iadd (px_at td_Mo_comeAgain 21 rfl) ?_
      obtain ⟨hi3, h⟩ := px_gd_e h
      refine pw_ial (px_at td_Mo_comeAgain 22 rfl) rfl hi3 rfl ?_
      refine pw_aload_n 0 (px_at td_Mo_comeAgain 23 rfl) rfl rfl ?_
      refine pw_getf (v := .inr (some (1, 28, 0))) (px_at td_Mo_comeAgain 24 rfl) lf_Mo_63 rfl rfl rfl ?_
      refine pw_sipush (v := 182) (px_at td_Mo_comeAgain 25 rfl) (by decide) ?_
      refine pw_ial (px_at td_Mo_comeAgain 26 rfl) rfl (px_inL (by decide) px_z182 (by decide)) px_z182 ?_
      rcases px_ite h with ⟨hc13, h⟩ | ⟨hc13, h⟩
      · refine pw_icmp_eq 51 (px_at td_Mo_comeAgain 27 rfl) (by decide) (fun _ => ?_) (fun hn => absurd hc13 hn)
        refine pw_aload_n 0 (px_at td_Mo_comeAgain 29 rfl) rfl rfl ?_
        refine pw_getf (v := .inr (some (1, 28, 0))) (px_at td_Mo_comeAgain 30 rfl) lf_Mo_63 rfl rfl rfl ?_
        refine pw_bipush (v := 13) (px_at td_Mo_comeAgain 31 rfl) (by decide) ?_
        refine pw_iload_n 1 (px_at td_Mo_comeAgain 32 rfl) rfl rfl ?_
        refine pw_imul (px_at td_Mo_comeAgain 33 rfl) ?_
        refine pw_bipush (v := 10) (px_at td_Mo_comeAgain 34 rfl) (by decide) ?_
        refine pw_iadd (px_at td_Mo_comeAgain 35 rfl) ?_
        refine pw_iconst (v := 0) (px_at td_Mo_comeAgain 36 rfl) (by decide) ?_
        obtain ⟨hi4, h⟩ := px_gd_e h
        obtain ⟨σ5, hσ5, h⟩ := px_l_e h
        refine pw_ias (px_at td_Mo_comeAgain 37 rfl) rfl hi4 rfl hσ5 ?_
        refine pw_aload_n 0 (px_at td_Mo_comeAgain 38 rfl) rfl rfl ?_
        refine pw_iload_n 1 (px_at td_Mo_comeAgain 39 rfl) rfl rfl ?_
        obtain ⟨r6, hk6, h⟩ := px_b1_e h
        refine pw_cV1 (0, 0, 0) [.inl v1] [] (px_at td_Mo_comeAgain 40 rfl) lV_Mo_230 rfl rfl rfl (Nat.le_of_ble_eq_true rfl) (by decide) (k_Mo_state hk6) ?_
        rcases px_ite h with ⟨hc12, h⟩ | ⟨hc12, h⟩
        · refine pw_if_eq 75 (px_at td_Mo_comeAgain 41 rfl) (by decide) (fun _ => ?_) (fun hn => absurd hc12 hn)
          refine pw_aload_n 0 (px_at td_Mo_comeAgain 43 rfl) rfl rfl ?_
          refine pw_iload_n 1 (px_at td_Mo_comeAgain 44 rfl) rfl rfl ?_
          obtain ⟨σ7, hk7, h⟩ := px_b1_e h
          refine pw_cV0 (0, 0, 0) [.inl v1] [] (px_at td_Mo_comeAgain 45 rfl) lV_Mo_247 rfl rfl rfl (Nat.le_of_ble_eq_true rfl) (by decide) (k_Mo_waitsNow hk7) ?_
          refine pw_aload_n 0 (px_at td_Mo_comeAgain 46 rfl) rfl rfl ?_
          refine pw_getf (v := .inr (some (1, 28, 0))) (px_at td_Mo_comeAgain 47 rfl) lf_Mo_63 rfl rfl rfl ?_
          refine pw_bipush (v := 13) (px_at td_Mo_comeAgain 48 rfl) (by decide) ?_
          refine pw_iload_n 1 (px_at td_Mo_comeAgain 49 rfl) rfl rfl ?_
          refine pw_imul (px_at td_Mo_comeAgain 50 rfl) ?_
          refine pw_bipush (v := 11) (px_at td_Mo_comeAgain 51 rfl) (by decide) ?_
          refine pw_iadd (px_at td_Mo_comeAgain 52 rfl) ?_
          refine pw_dup2 (px_at td_Mo_comeAgain 53 rfl) ?_
          obtain ⟨hi8, h⟩ := px_gd_e h
          refine pw_ial (px_at td_Mo_comeAgain 54 rfl) rfl hi8 rfl ?_
          refine pw_iconst (v := 1) (px_at td_Mo_comeAgain 55 rfl) (by decide) ?_
          refine pw_iadd (px_at td_Mo_comeAgain 56 rfl) ?_
          obtain ⟨hi9, h⟩ := px_gd_e h
          obtain ⟨σ10, hσ10, h⟩ := px_l_e h
          refine pw_ias (px_at td_Mo_comeAgain 57 rfl) rfl hi9 rfl hσ10 ?_
          refine pw_aload_n 0 (px_at td_Mo_comeAgain 58 rfl) rfl rfl ?_
          refine pw_iload_n 1 (px_at td_Mo_comeAgain 59 rfl) rfl rfl ?_
          refine pw_bipush (v := 7) (px_at td_Mo_comeAgain 60 rfl) (by decide) ?_
          obtain ⟨σ11, hk11, h⟩ := px_b1_e h
          refine pw_cV0 (0, 0, 0) [.inl v1, .inl 7] [] (px_at td_Mo_comeAgain 61 rfl) lV_Mo_256 rfl rfl rfl (Nat.le_of_ble_eq_true rfl) (by decide) (k_Mo_logs hk11) ?_
          exact Mo_comeAgain_n103_l h hC hX0
        · refine pw_if_eq 75 (px_at td_Mo_comeAgain 41 rfl) (by decide) (fun hn => absurd hn hc12) (fun _ => ?_)
          refine pw_goto 103 (px_at td_Mo_comeAgain 42 rfl) (by decide) ?_
          exact Mo_comeAgain_n103_l h hC hX0
      · refine pw_icmp_eq 51 (px_at td_Mo_comeAgain 27 rfl) (by decide) (fun hn => absurd hn hc13) (fun _ => ?_)
        refine pw_goto 103 (px_at td_Mo_comeAgain 28 rfl) (by decide) ?_
        exact Mo_comeAgain_n103_l h hC hX0
def Mo_comeAgain_L2  : (Int32 × pxS) → Option ((Int32 × pxS) ⊕ (pxS)) := fun s => Mo_comeAgain_n2 s.2 s.1
set_option maxRecDepth 100000 in
theorem Mo_comeAgain_L2_l {l : Launch} {ids : List pxI} {Rt : Option pxV → List pxI → pxG → pxS → Prop}  {n : Nat} {s : Int32 × pxS} {e : pxS} (h : px_it (Mo_comeAgain_L2 ) n s = some e) (hX0 : pw l (px_R 3) y_Mo_comeAgain c_Mo_comeAgain 2 none 109 [] [] ids mG e 0 0 Rt) : pw l (px_R 3) y_Mo_comeAgain c_Mo_comeAgain 2 none 2 [(0, .inr (some (0, 0, 0))), (1, .inl s.1)] [] ids mG s.2 0 0 Rt := by
  refine px_it_rule (f := Mo_comeAgain_L2 ) (C := fun s => pw l (px_R 3) y_Mo_comeAgain c_Mo_comeAgain 2 none 2 [(0, .inr (some (0, 0, 0))), (1, .inl s.1)] [] ids mG s.2 0 0 Rt) (X := fun e => (pw l (px_R 3) y_Mo_comeAgain c_Mo_comeAgain 2 none 109 [] [] ids mG e 0 0 Rt)) ?_ ?_ n s e h hX0
  · intro s s1 hf hC
    exact Mo_comeAgain_n2_l hf (fun s2 hs => by cases hs; exact hC) (fun e he => by cases he)
  · intro s e hf hX
    exact Mo_comeAgain_n2_l hf (fun s2 hs => by cases hs) (fun e1 he => by cases he; exact hX)
def F_Mo_comeAgain (σ : pxS)  : Option (pxS) :=
  px_b1 (px_it (Mo_comeAgain_L2 ) px_N (0, σ)) fun e16 =>
  some e16
set_option maxRecDepth 100000 in
theorem e_Mo_comeAgain {l : Launch} {ids : List pxI} {Rt : Option pxV → List pxI → pxG → pxS → Prop} {σ : pxS}  {res : pxS} (h : F_Mo_comeAgain σ  = some res) (hR : Rt none ids mG res) : pw l (px_R 3) y_Mo_comeAgain c_Mo_comeAgain 2 none 0 [(0, .inr (some (0, 0, 0)))] [] ids mG σ 0 0 Rt := by
  unfold F_Mo_comeAgain at h
  refine pw_iconst (v := 0) (px_at td_Mo_comeAgain 0 rfl) (by decide) ?_
  refine pw_istore_n (L' := [(1, .inl 0), (0, .inr (some (0, 0, 0)))]) (px_at td_Mo_comeAgain 1 rfl) rfl (by decide) rfl ?_
  obtain ⟨e16, he16, h⟩ := px_b1_e h
  refine pw_L [(0, .inr (some (0, 0, 0))), (1, .inl 0)] [1, 0] rfl ?_
  refine Mo_comeAgain_L2_l he16 ?_
  obtain rfl := Option.some.inj h
  exact pw_vret (px_at td_Mo_comeAgain 64 rfl) rfl (Nat.le_refl 0) (Nat.le_refl 0) hR
theorem k_Mo_comeAgain {l : Launch} {ids : List pxI} {σ : pxS}  {res : pxS} (h : F_Mo_comeAgain σ  = some res) : pm l y_Mo_comeAgain c_Mo_comeAgain 2 none (px_R 3) [.inr (some (0, 0, 0))] ids mG σ (px_r none ids mG res) :=
  pm_ofF (by decide +kernel) (Nat.le_of_ble_eq_true rfl) (e_Mo_comeAgain h ⟨rfl, rfl, rfl, rfl⟩)
/-! Mo_fails -/
def F_Mo_fails (σ : pxS) (v1 : Int32) : Option (pxS) :=
  px_l (px_up σ (1, 28, 0) 183 3) fun σ1 =>
  px_b1 (F_Mo_logs σ1 (-2) 5) fun σ2 =>
  (if v1 = 0 then some σ2 else px_b1 (F_Mo_rails σ2 ) fun r3 =>
  px_b1 (F_Mo_unwinds σ2 ((1 <<< (r3 &&& 31)) - 1) (-1)) fun σ4 =>
  some σ4)
set_option maxRecDepth 100000 in
theorem e_Mo_fails {l : Launch} {ids : List pxI} {Rt : Option pxV → List pxI → pxG → pxS → Prop} {σ : pxS} {v1 : Int32} {res : pxS} (h : F_Mo_fails σ v1 = some res) (hR : Rt none ids mG res) : pw l (px_R 5) y_Mo_fails c_Mo_fails 2 none 0 [(0, .inr (some (0, 0, 0))), (1, .inl v1)] [] ids mG σ 0 0 Rt := by
  unfold F_Mo_fails at h
  refine pw_aload_n 0 (px_at td_Mo_fails 0 rfl) rfl rfl ?_
  refine pw_getf (v := .inr (some (1, 28, 0))) (px_at td_Mo_fails 1 rfl) lf_Mo_63 rfl rfl rfl ?_
  refine pw_sipush (v := 183) (px_at td_Mo_fails 2 rfl) (by decide) ?_
  refine pw_iconst (v := 3) (px_at td_Mo_fails 3 rfl) (by decide) ?_
  obtain ⟨σ1, hσ1, h⟩ := px_l_e h
  refine pw_ias (px_at td_Mo_fails 4 rfl) rfl (px_inL (by decide) px_z183 (by decide)) px_z183 hσ1 ?_
  refine pw_aload_n 0 (px_at td_Mo_fails 5 rfl) rfl rfl ?_
  refine pw_bipush (v := (-2)) (px_at td_Mo_fails 6 rfl) (by decide) ?_
  refine pw_iconst (v := 5) (px_at td_Mo_fails 7 rfl) (by decide) ?_
  obtain ⟨σ2, hk2, h⟩ := px_b1_e h
  refine pw_cV0 (0, 0, 0) [.inl (-2), .inl 5] [] (px_at td_Mo_fails 8 rfl) lV_Mo_256 rfl rfl rfl (Nat.le_of_ble_eq_true rfl) (by decide) (k_Mo_logs hk2) ?_
  refine pw_iload_n 1 (px_at td_Mo_fails 9 rfl) rfl rfl ?_
  rcases px_ite h with ⟨hc5, h⟩ | ⟨hc5, h⟩
  · refine pw_if_eq 33 (px_at td_Mo_fails 10 rfl) (by decide) (fun _ => ?_) (fun hn => absurd hc5 hn)
    obtain rfl := Option.some.inj h
    exact pw_vret (px_at td_Mo_fails 20 rfl) rfl (Nat.le_refl 0) (Nat.le_refl 0) hR
  · refine pw_if_eq 33 (px_at td_Mo_fails 10 rfl) (by decide) (fun hn => absurd hn hc5) (fun _ => ?_)
    refine pw_aload_n 0 (px_at td_Mo_fails 11 rfl) rfl rfl ?_
    refine pw_iconst (v := 1) (px_at td_Mo_fails 12 rfl) (by decide) ?_
    refine pw_aload_n 0 (px_at td_Mo_fails 13 rfl) rfl rfl ?_
    obtain ⟨r3, hk3, h⟩ := px_b1_e h
    refine pw_cV1 (0, 0, 0) [] [.inl 1, .inr (some (0, 0, 0))] (px_at td_Mo_fails 14 rfl) lV_Mo_223 rfl rfl rfl (Nat.le_of_ble_eq_true rfl) (by decide) (k_Mo_rails hk3) ?_
    refine pw_ishl (px_at td_Mo_fails 15 rfl) ?_
    refine pw_iconst (v := 1) (px_at td_Mo_fails 16 rfl) (by decide) ?_
    refine pw_isub (px_at td_Mo_fails 17 rfl) ?_
    refine pw_iconst (v := (-1)) (px_at td_Mo_fails 18 rfl) (by decide) ?_
    obtain ⟨σ4, hk4, h⟩ := px_b1_e h
    refine pw_cV0 (0, 0, 0) [.inl ((1 <<< (r3 &&& 31)) - 1), .inl (-1)] [] (px_at td_Mo_fails 19 rfl) lV_Mo_253 rfl rfl rfl (Nat.le_of_ble_eq_true rfl) (by decide) (k_Mo_unwinds hk4) ?_
    obtain rfl := Option.some.inj h
    exact pw_vret (px_at td_Mo_fails 20 rfl) rfl (Nat.le_refl 0) (Nat.le_refl 0) hR
theorem k_Mo_fails {l : Launch} {ids : List pxI} {σ : pxS} {v1 : Int32} {res : pxS} (h : F_Mo_fails σ v1 = some res) : pm l y_Mo_fails c_Mo_fails 2 none (px_R 5) [.inr (some (0, 0, 0)), .inl v1] ids mG σ (px_r none ids mG res) :=
  pm_ofF (by decide +kernel) (Nat.le_of_ble_eq_true rfl) (e_Mo_fails h ⟨rfl, rfl, rfl, rfl⟩)
/-! Mo_isThrough -/
def Mo_isThrough_n133 (σ : pxS)  : Option (Int32 × pxS) :=
  some (0, σ)
set_option maxRecDepth 100000 in
theorem Mo_isThrough_n133_l {l : Launch} {ids : List pxI} {Rt : Option pxV → List pxI → pxG → pxS → Prop} {σ : pxS}  {res : Int32 × pxS} (h : Mo_isThrough_n133 σ  = some res) (hR : Rt (some (.inl res.1)) ids mG res.2) : pw l (px_R 6) y_Mo_isThrough c_Mo_isThrough 3 (some .boolean) 133 [] [] ids mG σ 0 0 Rt := by
  unfold Mo_isThrough_n133 at h
  refine pw_iconst (v := 0) (px_at td_Mo_isThrough 69 rfl) (by decide) ?_
  obtain rfl := Option.some.inj h
  exact pw_zret (px_at td_Mo_isThrough 70 rfl) rfl (by decide) (Nat.le_refl 0) (Nat.le_refl 0) hR
def F_Mo_isThrough (σ : pxS) (v1 : Int32) : Option (Int32 × pxS) :=
  px_gd v1 48 (px_gd v1 48 ((if (σ (1, 13, 0) v1.toNatClampNeg) = 0 then px_b1 (F_Mo_asks σ (σ (1, 14, 0) v1.toNatClampNeg) 0) fun σ10 =>
  some (1, σ10) else (if (σ (1, 13, 0) v1.toNatClampNeg) = 1 then px_b1 (F_Mo_asks σ (σ (1, 14, 0) v1.toNatClampNeg) 1) fun σ11 =>
  some (1, σ11) else (if (σ (1, 13, 0) v1.toNatClampNeg) = 2 then px_gd v1 48 ((if (σ (1, 28, 0) 185) = (σ (1, 15, 0) v1.toNatClampNeg) then some (1, σ) else px_l (px_up σ (1, 28, 0) 185 ((σ (1, 28, 0) 185) + 1)) fun σ13 =>
  some (0, σ13))) else px_b1 (F_Mo_isGood σ (σ (1, 14, 0) v1.toNatClampNeg)) fun r4 =>
  (if r4 = 0 then px_l (px_up σ (1, 28, 0) 185 ((σ (1, 28, 0) 185) + 1)) fun σ5 =>
  px_gd v1 48 ((if (σ5 (1, 28, 0) 185) = (σ5 (1, 15, 0) v1.toNatClampNeg) then px_b1 (F_Mo_fails σ5 1) fun σ7 =>
  Mo_isThrough_n133 σ7  else Mo_isThrough_n133 σ5 )) else some (1, σ)))))))
set_option maxRecDepth 100000 in
theorem e_Mo_isThrough {l : Launch} {ids : List pxI} {Rt : Option pxV → List pxI → pxG → pxS → Prop} {σ : pxS} {v1 : Int32} {res : Int32 × pxS} (h : F_Mo_isThrough σ v1 = some res) (hR : Rt (some (.inl res.1)) ids mG res.2) : pw l (px_R 6) y_Mo_isThrough c_Mo_isThrough 3 (some .boolean) 0 [(0, .inr (some (0, 0, 0))), (1, .inl v1)] [] ids mG σ 0 0 Rt := by
  unfold F_Mo_isThrough at h
  refine pw_aload_n 0 (px_at td_Mo_isThrough 0 rfl) rfl rfl ?_
  refine pw_getf (v := .inr (some (1, 14, 0))) (px_at td_Mo_isThrough 1 rfl) lf_Mo_47 rfl rfl rfl ?_
  refine pw_iload_n 1 (px_at td_Mo_isThrough 2 rfl) rfl rfl ?_
  obtain ⟨hi1, h⟩ := px_gd_e h
  refine pw_ial (px_at td_Mo_isThrough 3 rfl) rfl hi1 rfl ?_
  refine pw_istore_n (L' := [(2, .inl (σ (1, 14, 0) v1.toNatClampNeg)), (0, .inr (some (0, 0, 0))), (1, .inl v1)]) (px_at td_Mo_isThrough 4 rfl) rfl (by decide) rfl ?_
  refine pw_aload_n 1 (px_at td_Mo_isThrough 5 rfl) rfl rfl ?_
  refine pw_getf (v := .inr (some (1, 13, 0))) (px_at td_Mo_isThrough 6 rfl) lf_Mo_44 rfl rfl rfl ?_
  refine pw_iload_n 2 (px_at td_Mo_isThrough 7 rfl) rfl rfl ?_
  obtain ⟨hi2, h⟩ := px_gd_e h
  refine pw_ial (px_at td_Mo_isThrough 8 rfl) rfl hi2 rfl ?_
  rcases px_ite h with ⟨hs3_0, h⟩ | ⟨hs3_0, h⟩
  · refine pw_tin (off := 27) 0 40 (px_at td_Mo_isThrough 9 rfl) hs3_0 (by decide) (by decide) (by decide) (by decide) ?_
    refine pw_aload_n 1 (px_at td_Mo_isThrough 10 rfl) rfl rfl ?_
    refine pw_iload_n 0 (px_at td_Mo_isThrough 11 rfl) rfl rfl ?_
    refine pw_iconst (v := 0) (px_at td_Mo_isThrough 12 rfl) (by decide) ?_
    obtain ⟨σ10, hk10, h⟩ := px_b1_e h
    refine pw_cV0 (0, 0, 0) [.inl (σ (1, 14, 0) v1.toNatClampNeg), .inl 0] [] (px_at td_Mo_isThrough 13 rfl) lV_Mo_262 rfl rfl rfl (Nat.le_of_ble_eq_true rfl) (by decide) (k_Mo_asks hk10) ?_
    refine pw_iconst (v := 1) (px_at td_Mo_isThrough 14 rfl) (by decide) ?_
    obtain rfl := Option.some.inj h
    exact pw_zret (px_at td_Mo_isThrough 15 rfl) rfl (by decide) (Nat.le_refl 0) (Nat.le_refl 0) hR
  · have hd3_0 := trivial
    rcases px_ite h with ⟨hs3_1, h⟩ | ⟨hs3_1, h⟩
    · refine pw_tin (off := 35) 1 48 (px_at td_Mo_isThrough 9 rfl) hs3_1 (by decide) (by decide) (by decide) (by decide) ?_
      refine pw_aload_n 1 (px_at td_Mo_isThrough 16 rfl) rfl rfl ?_
      refine pw_iload_n 0 (px_at td_Mo_isThrough 17 rfl) rfl rfl ?_
      refine pw_iconst (v := 1) (px_at td_Mo_isThrough 18 rfl) (by decide) ?_
      obtain ⟨σ11, hk11, h⟩ := px_b1_e h
      refine pw_cV0 (0, 0, 0) [.inl (σ (1, 14, 0) v1.toNatClampNeg), .inl 1] [] (px_at td_Mo_isThrough 19 rfl) lV_Mo_262 rfl rfl rfl (Nat.le_of_ble_eq_true rfl) (by decide) (k_Mo_asks hk11) ?_
      refine pw_iconst (v := 1) (px_at td_Mo_isThrough 20 rfl) (by decide) ?_
      obtain rfl := Option.some.inj h
      exact pw_zret (px_at td_Mo_isThrough 21 rfl) rfl (by decide) (Nat.le_refl 0) (Nat.le_refl 0) hR
    · have hd3_1 := trivial
      rcases px_ite h with ⟨hs3_2, h⟩ | ⟨hs3_2, h⟩
      · refine pw_tin (off := 43) 2 56 (px_at td_Mo_isThrough 9 rfl) hs3_2 (by decide) (by decide) (by decide) (by decide) ?_
        refine pw_aload_n 1 (px_at td_Mo_isThrough 22 rfl) rfl rfl ?_
        refine pw_getf (v := .inr (some (1, 28, 0))) (px_at td_Mo_isThrough 23 rfl) lf_Mo_63 rfl rfl rfl ?_
        refine pw_sipush (v := 185) (px_at td_Mo_isThrough 24 rfl) (by decide) ?_
        refine pw_ial (px_at td_Mo_isThrough 25 rfl) rfl (px_inL (by decide) px_z185 (by decide)) px_z185 ?_
        refine pw_aload_n 1 (px_at td_Mo_isThrough 26 rfl) rfl rfl ?_
        refine pw_getf (v := .inr (some (1, 15, 0))) (px_at td_Mo_isThrough 27 rfl) lf_Mo_50 rfl rfl rfl ?_
        refine pw_iload_n 2 (px_at td_Mo_isThrough 28 rfl) rfl rfl ?_
        obtain ⟨hi12, h⟩ := px_gd_e h
        refine pw_ial (px_at td_Mo_isThrough 29 rfl) rfl hi12 rfl ?_
        rcases px_ite h with ⟨hc14, h⟩ | ⟨hc14, h⟩
        · refine pw_icmp_ne 75 (px_at td_Mo_isThrough 30 rfl) (by decide) (fun hn => absurd hc14 hn) (fun _ => ?_)
          refine pw_iconst (v := 1) (px_at td_Mo_isThrough 31 rfl) (by decide) ?_
          obtain rfl := Option.some.inj h
          exact pw_zret (px_at td_Mo_isThrough 32 rfl) rfl (by decide) (Nat.le_refl 0) (Nat.le_refl 0) hR
        · refine pw_icmp_ne 75 (px_at td_Mo_isThrough 30 rfl) (by decide) (fun _ => ?_) (fun hn => absurd hn hc14)
          refine pw_aload_n 1 (px_at td_Mo_isThrough 33 rfl) rfl rfl ?_
          refine pw_getf (v := .inr (some (1, 28, 0))) (px_at td_Mo_isThrough 34 rfl) lf_Mo_63 rfl rfl rfl ?_
          refine pw_sipush (v := 185) (px_at td_Mo_isThrough 35 rfl) (by decide) ?_
          refine pw_dup2 (px_at td_Mo_isThrough 36 rfl) ?_
          refine pw_ial (px_at td_Mo_isThrough 37 rfl) rfl (px_inL (by decide) px_z185 (by decide)) px_z185 ?_
          refine pw_iconst (v := 1) (px_at td_Mo_isThrough 38 rfl) (by decide) ?_
          refine pw_iadd (px_at td_Mo_isThrough 39 rfl) ?_
          obtain ⟨σ13, hσ13, h⟩ := px_l_e h
          refine pw_ias (px_at td_Mo_isThrough 40 rfl) rfl (px_inL (by decide) px_z185 (by decide)) px_z185 hσ13 ?_
          refine pw_iconst (v := 0) (px_at td_Mo_isThrough 41 rfl) (by decide) ?_
          obtain rfl := Option.some.inj h
          exact pw_zret (px_at td_Mo_isThrough 42 rfl) rfl (by decide) (Nat.le_refl 0) (Nat.le_refl 0) hR
      · have hd3_2 := trivial
        refine pw_tout 89 (px_at td_Mo_isThrough 9 rfl) (px_out [0, 1, 2] (by decide) (by simp only [List.forall_mem_cons]; exact ⟨hs3_0, hs3_1, hs3_2, fun _ hm => absurd hm List.not_mem_nil⟩)) (by decide) ?_
        refine pw_aload_n 1 (px_at td_Mo_isThrough 43 rfl) rfl rfl ?_
        refine pw_iload_n 0 (px_at td_Mo_isThrough 44 rfl) rfl rfl ?_
        obtain ⟨r4, hk4, h⟩ := px_b1_e h
        refine pw_cV1 (0, 0, 0) [.inl (σ (1, 14, 0) v1.toNatClampNeg)] [] (px_at td_Mo_isThrough 45 rfl) lV_Mo_266 rfl rfl rfl (Nat.le_of_ble_eq_true rfl) (by decide) (k_Mo_isGood hk4) ?_
        rcases px_ite h with ⟨hc9, h⟩ | ⟨hc9, h⟩
        · refine pw_if_eq 99 (px_at td_Mo_isThrough 46 rfl) (by decide) (fun _ => ?_) (fun hn => absurd hc9 hn)
          refine pw_aload_n 1 (px_at td_Mo_isThrough 49 rfl) rfl rfl ?_
          refine pw_getf (v := .inr (some (1, 28, 0))) (px_at td_Mo_isThrough 50 rfl) lf_Mo_63 rfl rfl rfl ?_
          refine pw_sipush (v := 185) (px_at td_Mo_isThrough 51 rfl) (by decide) ?_
          refine pw_dup2 (px_at td_Mo_isThrough 52 rfl) ?_
          refine pw_ial (px_at td_Mo_isThrough 53 rfl) rfl (px_inL (by decide) px_z185 (by decide)) px_z185 ?_
          refine pw_iconst (v := 1) (px_at td_Mo_isThrough 54 rfl) (by decide) ?_
          refine pw_iadd (px_at td_Mo_isThrough 55 rfl) ?_
          obtain ⟨σ5, hσ5, h⟩ := px_l_e h
          refine pw_ias (px_at td_Mo_isThrough 56 rfl) rfl (px_inL (by decide) px_z185 (by decide)) px_z185 hσ5 ?_
          refine pw_aload_n 1 (px_at td_Mo_isThrough 57 rfl) rfl rfl ?_
          refine pw_getf (v := .inr (some (1, 28, 0))) (px_at td_Mo_isThrough 58 rfl) lf_Mo_63 rfl rfl rfl ?_
          refine pw_sipush (v := 185) (px_at td_Mo_isThrough 59 rfl) (by decide) ?_
          refine pw_ial (px_at td_Mo_isThrough 60 rfl) rfl (px_inL (by decide) px_z185 (by decide)) px_z185 ?_
          refine pw_aload_n 1 (px_at td_Mo_isThrough 61 rfl) rfl rfl ?_
          refine pw_getf (v := .inr (some (1, 15, 0))) (px_at td_Mo_isThrough 62 rfl) lf_Mo_50 rfl rfl rfl ?_
          refine pw_iload_n 2 (px_at td_Mo_isThrough 63 rfl) rfl rfl ?_
          obtain ⟨hi6, h⟩ := px_gd_e h
          refine pw_ial (px_at td_Mo_isThrough 64 rfl) rfl hi6 rfl ?_
          rcases px_ite h with ⟨hc8, h⟩ | ⟨hc8, h⟩
          · refine pw_icmp_ne 133 (px_at td_Mo_isThrough 65 rfl) (by decide) (fun hn => absurd hc8 hn) (fun _ => ?_)
            refine pw_aload_n 1 (px_at td_Mo_isThrough 66 rfl) rfl rfl ?_
            refine pw_iconst (v := 1) (px_at td_Mo_isThrough 67 rfl) (by decide) ?_
            obtain ⟨σ7, hk7, h⟩ := px_b1_e h
            refine pw_cV0 (0, 0, 0) [.inl 1] [] (px_at td_Mo_isThrough 68 rfl) lV_Mo_269 rfl rfl rfl (Nat.le_of_ble_eq_true rfl) (by decide) (k_Mo_fails hk7) ?_
            refine pw_L [] [] rfl ?_
            exact Mo_isThrough_n133_l h hR
          · refine pw_icmp_ne 133 (px_at td_Mo_isThrough 65 rfl) (by decide) (fun _ => ?_) (fun hn => absurd hn hc8)
            refine pw_L [] [] rfl ?_
            exact Mo_isThrough_n133_l h hR
        · refine pw_if_eq 99 (px_at td_Mo_isThrough 46 rfl) (by decide) (fun hn => absurd hn hc9) (fun _ => ?_)
          refine pw_iconst (v := 1) (px_at td_Mo_isThrough 47 rfl) (by decide) ?_
          obtain rfl := Option.some.inj h
          exact pw_zret (px_at td_Mo_isThrough 48 rfl) rfl (by decide) (Nat.le_refl 0) (Nat.le_refl 0) hR
theorem k_Mo_isThrough {l : Launch} {ids : List pxI} {σ : pxS} {v1 : Int32} {res : Int32 × pxS} (h : F_Mo_isThrough σ v1 = some res) : pm l y_Mo_isThrough c_Mo_isThrough 3 (some .boolean) (px_R 6) [.inr (some (0, 0, 0)), .inl v1] ids mG σ (px_r (some (.inl res.1)) ids mG res.2) :=
  pm_ofF (by decide +kernel) (Nat.le_of_ble_eq_true rfl) (e_Mo_isThrough h ⟨rfl, rfl, rfl, rfl⟩)
/-! Mo_sequenceGoes -/
def Mo_sequenceGoes_n18 (σ : pxS) (v1 : Int32) : Option ((Int32 × pxS) ⊕ (Nat × pxS)) :=
  (if v1 = 0 then some (.inr (2, σ)) else (if (σ (1, 28, 0) 184) = (σ (1, 3, 0) 2) then some (.inr (0, σ)) else px_b2 (F_Mo_isThrough σ (σ (1, 28, 0) 184)) fun r1 σ1 =>
  (if r1 = 0 then some (.inr (1, σ1)) else px_l (px_up σ1 (1, 28, 0) 184 ((σ1 (1, 28, 0) 184) + 1)) fun σ2 =>
  px_l (px_up σ2 (1, 28, 0) 185 0) fun σ3 =>
  some (.inl (r1, σ3)))))
set_option maxRecDepth 100000 in
theorem Mo_sequenceGoes_n18_l {l : Launch} {ids : List pxI} {Rt : Option pxV → List pxI → pxG → pxS → Prop} {σ : pxS} {v1 : Int32} {o : (Int32 × pxS) ⊕ (Nat × pxS)} (h : Mo_sequenceGoes_n18 σ v1 = some o) (hC : ∀ s, o = .inl s → pw l (px_R 7) y_Mo_sequenceGoes c_Mo_sequenceGoes 3 none 18 [(0, .inr (some (0, 0, 0))), (1, .inl s.1)] [] ids mG s.2 0 0 Rt) (hX0 : ∀ e, o = .inr e → e.1 = 0 → pw l (px_R 7) y_Mo_sequenceGoes c_Mo_sequenceGoes 3 none 41 [(0, .inr (some (0, 0, 0)))] [] ids mG e.2 0 0 Rt) (hX1 : ∀ e, o = .inr e → e.1 = 1 → pw l (px_R 7) y_Mo_sequenceGoes c_Mo_sequenceGoes 3 none 69 [] [] ids mG e.2 0 0 Rt) (hX2 : ∀ e, o = .inr e → e.1 = 2 → pw l (px_R 7) y_Mo_sequenceGoes c_Mo_sequenceGoes 3 none 94 [] [] ids mG e.2 0 0 Rt) : pw l (px_R 7) y_Mo_sequenceGoes c_Mo_sequenceGoes 3 none 18 [(0, .inr (some (0, 0, 0))), (1, .inl v1)] [] ids mG σ 0 0 Rt := by
  unfold Mo_sequenceGoes_n18 at h
  refine pw_iload_n 1 (px_at td_Mo_sequenceGoes 10 rfl) rfl rfl ?_
  rcases px_ite h with ⟨hc6, h⟩ | ⟨hc6, h⟩
  · refine pw_if_eq 94 (px_at td_Mo_sequenceGoes 11 rfl) (by decide) (fun _ => ?_) (fun hn => absurd hc6 hn)
    refine pw_L [] [] rfl ?_
    exact hX2 (2, σ) (Option.some.inj h).symm rfl
  · refine pw_if_eq 94 (px_at td_Mo_sequenceGoes 11 rfl) (by decide) (fun hn => absurd hn hc6) (fun _ => ?_)
    refine pw_aload_n 0 (px_at td_Mo_sequenceGoes 12 rfl) rfl rfl ?_
    refine pw_getf (v := .inr (some (1, 28, 0))) (px_at td_Mo_sequenceGoes 13 rfl) lf_Mo_63 rfl rfl rfl ?_
    refine pw_sipush (v := 184) (px_at td_Mo_sequenceGoes 14 rfl) (by decide) ?_
    refine pw_ial (px_at td_Mo_sequenceGoes 15 rfl) rfl (px_inL (by decide) px_z184 (by decide)) px_z184 ?_
    refine pw_istore_n (L' := [(2, .inl (σ (1, 28, 0) 184)), (0, .inr (some (0, 0, 0))), (1, .inl v1)]) (px_at td_Mo_sequenceGoes 16 rfl) rfl (by decide) rfl ?_
    refine pw_iload_n 0 (px_at td_Mo_sequenceGoes 17 rfl) rfl rfl ?_
    refine pw_aload_n 1 (px_at td_Mo_sequenceGoes 18 rfl) rfl rfl ?_
    refine pw_getf (v := .inr (some (1, 3, 0))) (px_at td_Mo_sequenceGoes 19 rfl) lf_Mo_13 rfl rfl rfl ?_
    refine pw_iconst (v := 2) (px_at td_Mo_sequenceGoes 20 rfl) (by decide) ?_
    refine pw_ial (px_at td_Mo_sequenceGoes 21 rfl) rfl (px_inL (by decide) px_z2 (by decide)) px_z2 ?_
    rcases px_ite h with ⟨hc5, h⟩ | ⟨hc5, h⟩
    · refine pw_icmp_ne 59 (px_at td_Mo_sequenceGoes 22 rfl) (by decide) (fun hn => absurd hc5 hn) (fun _ => ?_)
      refine pw_L [(0, .inr (some (0, 0, 0)))] [1] rfl ?_
      exact hX0 (0, σ) (Option.some.inj h).symm rfl
    · refine pw_icmp_ne 59 (px_at td_Mo_sequenceGoes 22 rfl) (by decide) (fun _ => ?_) (fun hn => absurd hn hc5)
      refine pw_aload_n 1 (px_at td_Mo_sequenceGoes 33 rfl) rfl rfl ?_
      refine pw_iload_n 0 (px_at td_Mo_sequenceGoes 34 rfl) rfl rfl ?_
      obtain ⟨r1, σ1, hk1, h⟩ := px_b2_e h
      refine pw_cV1 (0, 0, 0) [.inl (σ (1, 28, 0) 184)] [] (px_at td_Mo_sequenceGoes 35 rfl) lV_Mo_259 rfl rfl rfl (Nat.le_of_ble_eq_true rfl) (by decide) (k_Mo_isThrough hk1) ?_
      refine pw_istore_n (L' := [(1, .inl r1), (2, .inl (σ (1, 28, 0) 184)), (0, .inr (some (0, 0, 0)))]) (px_at td_Mo_sequenceGoes 36 rfl) rfl (by decide) rfl ?_
      refine pw_iload_n 0 (px_at td_Mo_sequenceGoes 37 rfl) rfl rfl ?_
      rcases px_ite h with ⟨hc4, h⟩ | ⟨hc4, h⟩
      · refine pw_if_ne 70 (px_at td_Mo_sequenceGoes 38 rfl) (by decide) (fun hn => absurd hc4 hn) (fun _ => ?_)
        refine pw_L [] [] rfl ?_
        exact hX1 (1, σ1) (Option.some.inj h).symm rfl
      · refine pw_if_ne 70 (px_at td_Mo_sequenceGoes 38 rfl) (by decide) (fun _ => ?_) (fun hn => absurd hn hc4)
        refine pw_aload_n 2 (px_at td_Mo_sequenceGoes 40 rfl) rfl rfl ?_
        refine pw_getf (v := .inr (some (1, 28, 0))) (px_at td_Mo_sequenceGoes 41 rfl) lf_Mo_63 rfl rfl rfl ?_
        refine pw_sipush (v := 184) (px_at td_Mo_sequenceGoes 42 rfl) (by decide) ?_
        refine pw_dup2 (px_at td_Mo_sequenceGoes 43 rfl) ?_
        refine pw_ial (px_at td_Mo_sequenceGoes 44 rfl) rfl (px_inL (by decide) px_z184 (by decide)) px_z184 ?_
        refine pw_iconst (v := 1) (px_at td_Mo_sequenceGoes 45 rfl) (by decide) ?_
        refine pw_iadd (px_at td_Mo_sequenceGoes 46 rfl) ?_
        obtain ⟨σ2, hσ2, h⟩ := px_l_e h
        refine pw_ias (px_at td_Mo_sequenceGoes 47 rfl) rfl (px_inL (by decide) px_z184 (by decide)) px_z184 hσ2 ?_
        refine pw_aload_n 2 (px_at td_Mo_sequenceGoes 48 rfl) rfl rfl ?_
        refine pw_getf (v := .inr (some (1, 28, 0))) (px_at td_Mo_sequenceGoes 49 rfl) lf_Mo_63 rfl rfl rfl ?_
        refine pw_sipush (v := 185) (px_at td_Mo_sequenceGoes 50 rfl) (by decide) ?_
        refine pw_iconst (v := 0) (px_at td_Mo_sequenceGoes 51 rfl) (by decide) ?_
        obtain ⟨σ3, hσ3, h⟩ := px_l_e h
        refine pw_ias (px_at td_Mo_sequenceGoes 52 rfl) rfl (px_inL (by decide) px_z185 (by decide)) px_z185 hσ3 ?_
        refine pw_goto 18 (px_at td_Mo_sequenceGoes 53 rfl) (by decide) ?_
        refine pw_L [(0, .inr (some (0, 0, 0))), (1, .inl r1)] [2, 0] rfl ?_
        exact hC (r1, σ3) (Option.some.inj h).symm
def Mo_sequenceGoes_L18  : (Int32 × pxS) → Option ((Int32 × pxS) ⊕ (Nat × pxS)) := fun s => Mo_sequenceGoes_n18 s.2 s.1
set_option maxRecDepth 100000 in
theorem Mo_sequenceGoes_L18_l {l : Launch} {ids : List pxI} {Rt : Option pxV → List pxI → pxG → pxS → Prop}  {n : Nat} {s : Int32 × pxS} {e : Nat × pxS} (h : px_it (Mo_sequenceGoes_L18 ) n s = some e) (hX0 : e.1 = 0 → pw l (px_R 7) y_Mo_sequenceGoes c_Mo_sequenceGoes 3 none 41 [(0, .inr (some (0, 0, 0)))] [] ids mG e.2 0 0 Rt) (hX1 : e.1 = 1 → pw l (px_R 7) y_Mo_sequenceGoes c_Mo_sequenceGoes 3 none 69 [] [] ids mG e.2 0 0 Rt) (hX2 : e.1 = 2 → pw l (px_R 7) y_Mo_sequenceGoes c_Mo_sequenceGoes 3 none 94 [] [] ids mG e.2 0 0 Rt) : pw l (px_R 7) y_Mo_sequenceGoes c_Mo_sequenceGoes 3 none 18 [(0, .inr (some (0, 0, 0))), (1, .inl s.1)] [] ids mG s.2 0 0 Rt := by
  refine px_it_rule (f := Mo_sequenceGoes_L18 ) (C := fun s => pw l (px_R 7) y_Mo_sequenceGoes c_Mo_sequenceGoes 3 none 18 [(0, .inr (some (0, 0, 0))), (1, .inl s.1)] [] ids mG s.2 0 0 Rt) (X := fun e => (e.1 = 0 → pw l (px_R 7) y_Mo_sequenceGoes c_Mo_sequenceGoes 3 none 41 [(0, .inr (some (0, 0, 0)))] [] ids mG e.2 0 0 Rt) ∧ (e.1 = 1 → pw l (px_R 7) y_Mo_sequenceGoes c_Mo_sequenceGoes 3 none 69 [] [] ids mG e.2 0 0 Rt) ∧ (e.1 = 2 → pw l (px_R 7) y_Mo_sequenceGoes c_Mo_sequenceGoes 3 none 94 [] [] ids mG e.2 0 0 Rt)) ?_ ?_ n s e h ⟨hX0, hX1, hX2⟩
  · intro s s1 hf hC
    exact Mo_sequenceGoes_n18_l hf (fun s2 hs => by cases hs; exact hC) (fun e he ht => by cases he) (fun e he ht => by cases he) (fun e he ht => by cases he)
  · intro s e hf hX
    exact Mo_sequenceGoes_n18_l hf (fun s2 hs => by cases hs) (fun e1 he ht => by cases he; exact hX.1 ht) (fun e1 he ht => by cases he; exact hX.2.1 ht) (fun e1 he ht => by cases he; exact hX.2.2 ht)
def F_Mo_sequenceGoes (σ : pxS)  : Option (pxS) :=
  (if (σ (1, 28, 0) 183) = 1 then px_b1 (px_it (Mo_sequenceGoes_L18 ) px_N (1, σ)) fun e10 =>
  (if e10.1 = 0 then px_l (px_up e10.2 (1, 28, 0) 183 2) fun σ11 =>
  px_b1 (F_Mo_logs σ11 (-2) 6) fun σ12 =>
  some σ12 else (if e10.1 = 1 then some e10.2 else some e10.2)) else px_b1 (px_it (Mo_sequenceGoes_L18 ) px_N (0, σ)) fun e7 =>
  (if e7.1 = 0 then px_l (px_up e7.2 (1, 28, 0) 183 2) fun σ8 =>
  px_b1 (F_Mo_logs σ8 (-2) 6) fun σ9 =>
  some σ9 else (if e7.1 = 1 then some e7.2 else some e7.2)))
set_option maxRecDepth 100000 in
theorem e_Mo_sequenceGoes {l : Launch} {ids : List pxI} {Rt : Option pxV → List pxI → pxG → pxS → Prop} {σ : pxS}  {res : pxS} (h : F_Mo_sequenceGoes σ  = some res) (hR : Rt none ids mG res) : pw l (px_R 7) y_Mo_sequenceGoes c_Mo_sequenceGoes 3 none 0 [(0, .inr (some (0, 0, 0)))] [] ids mG σ 0 0 Rt := by
  unfold F_Mo_sequenceGoes at h
  refine pw_aload_n 0 (px_at td_Mo_sequenceGoes 0 rfl) rfl rfl ?_
  refine pw_getf (v := .inr (some (1, 28, 0))) (px_at td_Mo_sequenceGoes 1 rfl) lf_Mo_63 rfl rfl rfl ?_
  refine pw_sipush (v := 183) (px_at td_Mo_sequenceGoes 2 rfl) (by decide) ?_
  refine pw_ial (px_at td_Mo_sequenceGoes 3 rfl) rfl (px_inL (by decide) px_z183 (by decide)) px_z183 ?_
  refine pw_iconst (v := 1) (px_at td_Mo_sequenceGoes 4 rfl) (by decide) ?_
  rcases px_ite h with ⟨hc13, h⟩ | ⟨hc13, h⟩
  · refine pw_icmp_ne 16 (px_at td_Mo_sequenceGoes 5 rfl) (by decide) (fun hn => absurd hc13 hn) (fun _ => ?_)
    refine pw_iconst (v := 1) (px_at td_Mo_sequenceGoes 6 rfl) (by decide) ?_
    refine pw_goto 17 (px_at td_Mo_sequenceGoes 7 rfl) (by decide) ?_
    refine pw_istore_n (L' := [(1, .inl 1), (0, .inr (some (0, 0, 0)))]) (px_at td_Mo_sequenceGoes 9 rfl) rfl (by decide) rfl ?_
    obtain ⟨e10, he10, h⟩ := px_b1_e h
    refine pw_L [(0, .inr (some (0, 0, 0))), (1, .inl 1)] [1, 0] rfl ?_
    refine Mo_sequenceGoes_L18_l he10 (fun ht0 => ?_) (fun ht1 => ?_) (fun ht2 => ?_)
    · rw [if_pos ht0] at h
      refine pw_aload_n 0 (px_at td_Mo_sequenceGoes 23 rfl) rfl rfl ?_
      refine pw_getf (v := .inr (some (1, 28, 0))) (px_at td_Mo_sequenceGoes 24 rfl) lf_Mo_63 rfl rfl rfl ?_
      refine pw_sipush (v := 183) (px_at td_Mo_sequenceGoes 25 rfl) (by decide) ?_
      refine pw_iconst (v := 2) (px_at td_Mo_sequenceGoes 26 rfl) (by decide) ?_
      obtain ⟨σ11, hσ11, h⟩ := px_l_e h
      refine pw_ias (px_at td_Mo_sequenceGoes 27 rfl) rfl (px_inL (by decide) px_z183 (by decide)) px_z183 hσ11 ?_
      refine pw_aload_n 0 (px_at td_Mo_sequenceGoes 28 rfl) rfl rfl ?_
      refine pw_bipush (v := (-2)) (px_at td_Mo_sequenceGoes 29 rfl) (by decide) ?_
      refine pw_bipush (v := 6) (px_at td_Mo_sequenceGoes 30 rfl) (by decide) ?_
      obtain ⟨σ12, hk12, h⟩ := px_b1_e h
      refine pw_cV0 (0, 0, 0) [.inl (-2), .inl 6] [] (px_at td_Mo_sequenceGoes 31 rfl) lV_Mo_256 rfl rfl rfl (Nat.le_of_ble_eq_true rfl) (by decide) (k_Mo_logs hk12) ?_
      obtain rfl := Option.some.inj h
      exact pw_vret (px_at td_Mo_sequenceGoes 32 rfl) rfl (Nat.le_refl 0) (Nat.le_refl 0) hR
    · rw [if_neg (by rw [ht1]; decide)] at h
      rw [if_pos ht1] at h
      obtain rfl := Option.some.inj h
      exact pw_vret (px_at td_Mo_sequenceGoes 39 rfl) rfl (Nat.le_refl 0) (Nat.le_refl 0) hR
    · rw [if_neg (by rw [ht2]; decide)] at h
      rw [if_neg (by rw [ht2]; decide)] at h
      obtain rfl := Option.some.inj h
      exact pw_vret (px_at td_Mo_sequenceGoes 54 rfl) rfl (Nat.le_refl 0) (Nat.le_refl 0) hR
  · refine pw_icmp_ne 16 (px_at td_Mo_sequenceGoes 5 rfl) (by decide) (fun _ => ?_) (fun hn => absurd hn hc13)
    refine pw_iconst (v := 0) (px_at td_Mo_sequenceGoes 8 rfl) (by decide) ?_
    refine pw_istore_n (L' := [(1, .inl 0), (0, .inr (some (0, 0, 0)))]) (px_at td_Mo_sequenceGoes 9 rfl) rfl (by decide) rfl ?_
    obtain ⟨e7, he7, h⟩ := px_b1_e h
    refine pw_L [(0, .inr (some (0, 0, 0))), (1, .inl 0)] [1, 0] rfl ?_
    refine Mo_sequenceGoes_L18_l he7 (fun ht0 => ?_) (fun ht1 => ?_) (fun ht2 => ?_)
    · rw [if_pos ht0] at h
      refine pw_aload_n 0 (px_at td_Mo_sequenceGoes 23 rfl) rfl rfl ?_
      refine pw_getf (v := .inr (some (1, 28, 0))) (px_at td_Mo_sequenceGoes 24 rfl) lf_Mo_63 rfl rfl rfl ?_
      refine pw_sipush (v := 183) (px_at td_Mo_sequenceGoes 25 rfl) (by decide) ?_
      refine pw_iconst (v := 2) (px_at td_Mo_sequenceGoes 26 rfl) (by decide) ?_
      obtain ⟨σ8, hσ8, h⟩ := px_l_e h
      refine pw_ias (px_at td_Mo_sequenceGoes 27 rfl) rfl (px_inL (by decide) px_z183 (by decide)) px_z183 hσ8 ?_
      refine pw_aload_n 0 (px_at td_Mo_sequenceGoes 28 rfl) rfl rfl ?_
      refine pw_bipush (v := (-2)) (px_at td_Mo_sequenceGoes 29 rfl) (by decide) ?_
      refine pw_bipush (v := 6) (px_at td_Mo_sequenceGoes 30 rfl) (by decide) ?_
      obtain ⟨σ9, hk9, h⟩ := px_b1_e h
      refine pw_cV0 (0, 0, 0) [.inl (-2), .inl 6] [] (px_at td_Mo_sequenceGoes 31 rfl) lV_Mo_256 rfl rfl rfl (Nat.le_of_ble_eq_true rfl) (by decide) (k_Mo_logs hk9) ?_
      obtain rfl := Option.some.inj h
      exact pw_vret (px_at td_Mo_sequenceGoes 32 rfl) rfl (Nat.le_refl 0) (Nat.le_refl 0) hR
    · rw [if_neg (by rw [ht1]; decide)] at h
      rw [if_pos ht1] at h
      obtain rfl := Option.some.inj h
      exact pw_vret (px_at td_Mo_sequenceGoes 39 rfl) rfl (Nat.le_refl 0) (Nat.le_refl 0) hR
    · rw [if_neg (by rw [ht2]; decide)] at h
      rw [if_neg (by rw [ht2]; decide)] at h
      obtain rfl := Option.some.inj h
      exact pw_vret (px_at td_Mo_sequenceGoes 54 rfl) rfl (Nat.le_refl 0) (Nat.le_refl 0) hR
theorem k_Mo_sequenceGoes {l : Launch} {ids : List pxI} {σ : pxS}  {res : pxS} (h : F_Mo_sequenceGoes σ  = some res) : pm l y_Mo_sequenceGoes c_Mo_sequenceGoes 3 none (px_R 7) [.inr (some (0, 0, 0))] ids mG σ (px_r none ids mG res) :=
  pm_ofF (by decide +kernel) (Nat.le_of_ble_eq_true rfl) (e_Mo_sequenceGoes h ⟨rfl, rfl, rfl, rfl⟩)
/-! Mo_whyNot -/
def Mo_whyNot_n60 (σ : pxS) (v1 : Int32) (v2 : Int32) : Option ((Int32) ⊕ (Nat)) :=
  some (.inl (v2 + 1))
set_option maxRecDepth 100000 in
theorem Mo_whyNot_n60_l {l : Launch} {ids : List pxI} {Rt : Option pxV → List pxI → pxG → pxS → Prop} {σ : pxS} {v1 : Int32} {v2 : Int32} {o : (Int32) ⊕ (Nat)} (h : Mo_whyNot_n60 σ v1 v2 = some o) (hC : ∀ s, o = .inl s → pw l (px_R 3) y_Mo_whyNot c_Mo_whyNot 3 (some .int) 28 [(0, .inr (some (0, 0, 0))), (1, .inl v1), (2, .inl s)] [] ids mG σ 0 0 Rt) (hX0 : ∀ e, o = .inr e → e = 0 → pw l (px_R 3) y_Mo_whyNot c_Mo_whyNot 3 (some .int) 58 [] [] ids mG σ 0 0 Rt) (hX1 : ∀ e, o = .inr e → e = 1 → pw l (px_R 3) y_Mo_whyNot c_Mo_whyNot 3 (some .int) 66 [] [] ids mG σ 0 0 Rt) : pw l (px_R 3) y_Mo_whyNot c_Mo_whyNot 3 (some .int) 60 [(0, .inr (some (0, 0, 0))), (1, .inl v1), (2, .inl v2)] [] ids mG σ 0 0 Rt := by
  unfold Mo_whyNot_n60 at h
  refine pw_iinc (q := 2) (v := (v2 + 1)) (L' := [(2, .inl (v2 + 1)), (0, .inr (some (0, 0, 0))), (1, .inl v1)]) (px_at td_Mo_whyNot 37 rfl) rfl rfl (by decide) rfl ?_
  refine pw_goto 28 (px_at td_Mo_whyNot 38 rfl) (by decide) ?_
  refine pw_L [(0, .inr (some (0, 0, 0))), (1, .inl v1), (2, .inl (v2 + 1))] [1, 2, 0] rfl ?_
  exact hC (v2 + 1) (Option.some.inj h).symm
def Mo_whyNot_n28 (σ : pxS) (v1 : Int32) (v2 : Int32) : Option ((Int32) ⊕ (Nat)) :=
  px_b1 (F_Mo_rails σ ) fun r2 =>
  (if r2 ≤ v2 then some (.inr 1) else px_gd v1 24 ((if (((σ (1, 12, 0) v1.toNatClampNeg) >>> (v2 &&& 31)) &&& 1) = 1 then px_b1 (F_Mo_isGood σ v2) fun r4 =>
  (if r4 = 0 then some (.inr 0) else Mo_whyNot_n60 σ v1 v2) else Mo_whyNot_n60 σ v1 v2)))
set_option maxRecDepth 100000 in
theorem Mo_whyNot_n28_l {l : Launch} {ids : List pxI} {Rt : Option pxV → List pxI → pxG → pxS → Prop} {σ : pxS} {v1 : Int32} {v2 : Int32} {o : (Int32) ⊕ (Nat)} (h : Mo_whyNot_n28 σ v1 v2 = some o) (hC : ∀ s, o = .inl s → pw l (px_R 3) y_Mo_whyNot c_Mo_whyNot 3 (some .int) 28 [(0, .inr (some (0, 0, 0))), (1, .inl v1), (2, .inl s)] [] ids mG σ 0 0 Rt) (hX0 : ∀ e, o = .inr e → e = 0 → pw l (px_R 3) y_Mo_whyNot c_Mo_whyNot 3 (some .int) 58 [] [] ids mG σ 0 0 Rt) (hX1 : ∀ e, o = .inr e → e = 1 → pw l (px_R 3) y_Mo_whyNot c_Mo_whyNot 3 (some .int) 66 [] [] ids mG σ 0 0 Rt) : pw l (px_R 3) y_Mo_whyNot c_Mo_whyNot 3 (some .int) 28 [(0, .inr (some (0, 0, 0))), (1, .inl v1), (2, .inl v2)] [] ids mG σ 0 0 Rt := by
  unfold Mo_whyNot_n28 at h
  refine pw_iload_n 2 (px_at td_Mo_whyNot 17 rfl) rfl rfl ?_
  refine pw_aload_n 0 (px_at td_Mo_whyNot 18 rfl) rfl rfl ?_
  obtain ⟨r2, hk2, h⟩ := px_b1_e h
  refine pw_cV1 (0, 0, 0) [] [.inl v2] (px_at td_Mo_whyNot 19 rfl) lV_Mo_223 rfl rfl rfl (Nat.le_of_ble_eq_true rfl) (by decide) (k_Mo_rails hk2) ?_
  rcases px_ite h with ⟨hc7, h⟩ | ⟨hc7, h⟩
  · refine pw_icmp_ge 66 (px_at td_Mo_whyNot 20 rfl) (by decide) (fun _ => ?_) (fun hn => absurd hc7 hn)
    refine pw_L [] [] rfl ?_
    exact hX1 1 (Option.some.inj h).symm rfl
  · refine pw_icmp_ge 66 (px_at td_Mo_whyNot 20 rfl) (by decide) (fun hn => absurd hn hc7) (fun _ => ?_)
    refine pw_aload_n 0 (px_at td_Mo_whyNot 21 rfl) rfl rfl ?_
    refine pw_getf (v := .inr (some (1, 12, 0))) (px_at td_Mo_whyNot 22 rfl) lf_Mo_41 rfl rfl rfl ?_
    refine pw_iload_n 1 (px_at td_Mo_whyNot 23 rfl) rfl rfl ?_
    obtain ⟨hi3, h⟩ := px_gd_e h
    refine pw_ial (px_at td_Mo_whyNot 24 rfl) rfl hi3 rfl ?_
    refine pw_iload_n 2 (px_at td_Mo_whyNot 25 rfl) rfl rfl ?_
    refine pw_ishr (px_at td_Mo_whyNot 26 rfl) ?_
    refine pw_iconst (v := 1) (px_at td_Mo_whyNot 27 rfl) (by decide) ?_
    refine pw_iand (px_at td_Mo_whyNot 28 rfl) ?_
    refine pw_iconst (v := 1) (px_at td_Mo_whyNot 29 rfl) (by decide) ?_
    rcases px_ite h with ⟨hc6, h⟩ | ⟨hc6, h⟩
    · refine pw_icmp_ne 60 (px_at td_Mo_whyNot 30 rfl) (by decide) (fun hn => absurd hc6 hn) (fun _ => ?_)
      refine pw_aload_n 0 (px_at td_Mo_whyNot 31 rfl) rfl rfl ?_
      refine pw_iload_n 2 (px_at td_Mo_whyNot 32 rfl) rfl rfl ?_
      obtain ⟨r4, hk4, h⟩ := px_b1_e h
      refine pw_cV1 (0, 0, 0) [.inl v2] [] (px_at td_Mo_whyNot 33 rfl) lV_Mo_266 rfl rfl rfl (Nat.le_of_ble_eq_true rfl) (by decide) (k_Mo_isGood hk4) ?_
      rcases px_ite h with ⟨hc5, h⟩ | ⟨hc5, h⟩
      · refine pw_if_ne 60 (px_at td_Mo_whyNot 34 rfl) (by decide) (fun hn => absurd hc5 hn) (fun _ => ?_)
        refine pw_L [] [] rfl ?_
        exact hX0 0 (Option.some.inj h).symm rfl
      · refine pw_if_ne 60 (px_at td_Mo_whyNot 34 rfl) (by decide) (fun _ => ?_) (fun hn => absurd hn hc5)
        exact Mo_whyNot_n60_l h hC hX0 hX1
    · refine pw_icmp_ne 60 (px_at td_Mo_whyNot 30 rfl) (by decide) (fun _ => ?_) (fun hn => absurd hn hc6)
      exact Mo_whyNot_n60_l h hC hX0 hX1
def Mo_whyNot_L28 (σ : pxS) (v1 : Int32) : (Int32) → Option ((Int32) ⊕ (Nat)) := fun s => Mo_whyNot_n28 σ v1 s
set_option maxRecDepth 100000 in
theorem Mo_whyNot_L28_l {l : Launch} {ids : List pxI} {Rt : Option pxV → List pxI → pxG → pxS → Prop} {σ : pxS} {v1 : Int32} {n : Nat} {s : Int32} {e : Nat} (h : px_it (Mo_whyNot_L28 σ v1) n s = some e) (hX0 : e = 0 → pw l (px_R 3) y_Mo_whyNot c_Mo_whyNot 3 (some .int) 58 [] [] ids mG σ 0 0 Rt) (hX1 : e = 1 → pw l (px_R 3) y_Mo_whyNot c_Mo_whyNot 3 (some .int) 66 [] [] ids mG σ 0 0 Rt) : pw l (px_R 3) y_Mo_whyNot c_Mo_whyNot 3 (some .int) 28 [(0, .inr (some (0, 0, 0))), (1, .inl v1), (2, .inl s)] [] ids mG σ 0 0 Rt := by
  refine px_it_rule (f := Mo_whyNot_L28 σ v1) (C := fun s => pw l (px_R 3) y_Mo_whyNot c_Mo_whyNot 3 (some .int) 28 [(0, .inr (some (0, 0, 0))), (1, .inl v1), (2, .inl s)] [] ids mG σ 0 0 Rt) (X := fun e => (e = 0 → pw l (px_R 3) y_Mo_whyNot c_Mo_whyNot 3 (some .int) 58 [] [] ids mG σ 0 0 Rt) ∧ (e = 1 → pw l (px_R 3) y_Mo_whyNot c_Mo_whyNot 3 (some .int) 66 [] [] ids mG σ 0 0 Rt)) ?_ ?_ n s e h ⟨hX0, hX1⟩
  · intro s s1 hf hC
    exact Mo_whyNot_n28_l hf (fun s2 hs => by cases hs; exact hC) (fun e he ht => by cases he) (fun e he ht => by cases he)
  · intro s e hf hX
    exact Mo_whyNot_n28_l hf (fun s2 hs => by cases hs) (fun e1 he ht => by cases he; exact hX.1 ht) (fun e1 he ht => by cases he; exact hX.2 ht)
def Mo_whyNot_n26 (σ : pxS) (v1 : Int32) : Option (Int32) :=
  px_b1 (px_it (Mo_whyNot_L28 σ v1) px_N 0) fun e8 =>
  (if e8 = 0 then some (2) else some (0))
set_option maxRecDepth 100000 in
theorem Mo_whyNot_n26_l {l : Launch} {ids : List pxI} {Rt : Option pxV → List pxI → pxG → pxS → Prop} {σ : pxS} {v1 : Int32} {res : Int32} (h : Mo_whyNot_n26 σ v1 = some res) (hR : Rt (some (.inl res)) ids mG σ) : pw l (px_R 3) y_Mo_whyNot c_Mo_whyNot 3 (some .int) 26 [(0, .inr (some (0, 0, 0))), (1, .inl v1)] [] ids mG σ 0 0 Rt := by
  unfold Mo_whyNot_n26 at h
  refine pw_iconst (v := 0) (px_at td_Mo_whyNot 15 rfl) (by decide) ?_
  refine pw_istore_n (L' := [(2, .inl 0), (0, .inr (some (0, 0, 0))), (1, .inl v1)]) (px_at td_Mo_whyNot 16 rfl) rfl (by decide) rfl ?_
  obtain ⟨e8, he8, h⟩ := px_b1_e h
  refine pw_L [(0, .inr (some (0, 0, 0))), (1, .inl v1), (2, .inl 0)] [1, 2, 0] rfl ?_
  refine Mo_whyNot_L28_l he8 (fun ht0 => ?_) (fun ht1 => ?_)
  · rw [if_pos ht0] at h
    refine pw_iconst (v := 2) (px_at td_Mo_whyNot 35 rfl) (by decide) ?_
    obtain rfl := Option.some.inj h
    exact pw_iret (px_at td_Mo_whyNot 36 rfl) rfl (Nat.le_refl 0) (Nat.le_refl 0) hR
  · rw [if_neg (by rw [ht1]; decide)] at h
    refine pw_iconst (v := 0) (px_at td_Mo_whyNot 39 rfl) (by decide) ?_
    obtain rfl := Option.some.inj h
    exact pw_iret (px_at td_Mo_whyNot 40 rfl) rfl (Nat.le_refl 0) (Nat.le_refl 0) hR
def F_Mo_whyNot (σ : pxS) (v1 : Int32) : Option (Int32) :=
  px_gd v1 24 ((if (σ (1, 6, 0) v1.toNatClampNeg) = (-2) then Mo_whyNot_n26 σ v1 else px_gd v1 24 (px_b1 (F_Mo_isGood σ (σ (1, 6, 0) v1.toNatClampNeg)) fun r10 =>
  (if r10 = 0 then some (1) else Mo_whyNot_n26 σ v1))))
set_option maxRecDepth 100000 in
theorem e_Mo_whyNot {l : Launch} {ids : List pxI} {Rt : Option pxV → List pxI → pxG → pxS → Prop} {σ : pxS} {v1 : Int32} {res : Int32} (h : F_Mo_whyNot σ v1 = some res) (hR : Rt (some (.inl res)) ids mG σ) : pw l (px_R 3) y_Mo_whyNot c_Mo_whyNot 3 (some .int) 0 [(0, .inr (some (0, 0, 0))), (1, .inl v1)] [] ids mG σ 0 0 Rt := by
  unfold F_Mo_whyNot at h
  refine pw_aload_n 0 (px_at td_Mo_whyNot 0 rfl) rfl rfl ?_
  refine pw_getf (v := .inr (some (1, 6, 0))) (px_at td_Mo_whyNot 1 rfl) lf_Mo_23 rfl rfl rfl ?_
  refine pw_iload_n 1 (px_at td_Mo_whyNot 2 rfl) rfl rfl ?_
  obtain ⟨hi1, h⟩ := px_gd_e h
  refine pw_ial (px_at td_Mo_whyNot 3 rfl) rfl hi1 rfl ?_
  refine pw_bipush (v := (-2)) (px_at td_Mo_whyNot 4 rfl) (by decide) ?_
  rcases px_ite h with ⟨hc12, h⟩ | ⟨hc12, h⟩
  · refine pw_icmp_eq 26 (px_at td_Mo_whyNot 5 rfl) (by decide) (fun _ => ?_) (fun hn => absurd hc12 hn)
    exact Mo_whyNot_n26_l h hR
  · refine pw_icmp_eq 26 (px_at td_Mo_whyNot 5 rfl) (by decide) (fun hn => absurd hn hc12) (fun _ => ?_)
    refine pw_aload_n 0 (px_at td_Mo_whyNot 6 rfl) rfl rfl ?_
    refine pw_aload_n 0 (px_at td_Mo_whyNot 7 rfl) rfl rfl ?_
    refine pw_getf (v := .inr (some (1, 6, 0))) (px_at td_Mo_whyNot 8 rfl) lf_Mo_23 rfl rfl rfl ?_
    refine pw_iload_n 1 (px_at td_Mo_whyNot 9 rfl) rfl rfl ?_
    obtain ⟨hi9, h⟩ := px_gd_e h
    refine pw_ial (px_at td_Mo_whyNot 10 rfl) rfl hi9 rfl ?_
    obtain ⟨r10, hk10, h⟩ := px_b1_e h
    refine pw_cV1 (0, 0, 0) [.inl (σ (1, 6, 0) v1.toNatClampNeg)] [] (px_at td_Mo_whyNot 11 rfl) lV_Mo_266 rfl rfl rfl (Nat.le_of_ble_eq_true rfl) (by decide) (k_Mo_isGood hk10) ?_
    rcases px_ite h with ⟨hc11, h⟩ | ⟨hc11, h⟩
    · refine pw_if_ne 26 (px_at td_Mo_whyNot 12 rfl) (by decide) (fun hn => absurd hc11 hn) (fun _ => ?_)
      refine pw_iconst (v := 1) (px_at td_Mo_whyNot 13 rfl) (by decide) ?_
      obtain rfl := Option.some.inj h
      exact pw_iret (px_at td_Mo_whyNot 14 rfl) rfl (Nat.le_refl 0) (Nat.le_refl 0) hR
    · refine pw_if_ne 26 (px_at td_Mo_whyNot 12 rfl) (by decide) (fun _ => ?_) (fun hn => absurd hn hc11)
      exact Mo_whyNot_n26_l h hR
theorem k_Mo_whyNot {l : Launch} {ids : List pxI} {σ : pxS} {v1 : Int32} {res : Int32} (h : F_Mo_whyNot σ v1 = some res) : pm l y_Mo_whyNot c_Mo_whyNot 3 (some .int) (px_R 3) [.inr (some (0, 0, 0)), .inl v1] ids mG σ (px_r (some (.inl res)) ids mG σ) :=
  pm_ofF (by decide +kernel) (Nat.le_of_ble_eq_true rfl) (e_Mo_whyNot h ⟨rfl, rfl, rfl, rfl⟩)
/-! Mo_beginsToRise -/
def Mo_beginsToRise_n55 (σ : pxS) (v1 : Int32) (v2 : Int32) : Option ((Int32 × Int32 × pxS) ⊕ (Int32 × pxS)) :=
  some (.inl (v1, (v2 + 1), σ))
set_option maxRecDepth 100000 in
theorem Mo_beginsToRise_n55_l {l : Launch} {ids : List pxI} {Rt : Option pxV → List pxI → pxG → pxS → Prop} {σ : pxS} {v1 : Int32} {v2 : Int32} {o : (Int32 × Int32 × pxS) ⊕ (Int32 × pxS)} (h : Mo_beginsToRise_n55 σ v1 v2 = some o) (hC : ∀ s, o = .inl s → pw l (px_R 4) y_Mo_beginsToRise c_Mo_beginsToRise 4 none 4 [(0, .inr (some (0, 0, 0))), (1, .inl s.1), (2, .inl s.2.1)] [] ids mG s.2.2 0 0 Rt) (hX0 : ∀ e, o = .inr e → pw l (px_R 4) y_Mo_beginsToRise c_Mo_beginsToRise 4 none 61 [(0, .inr (some (0, 0, 0))), (1, .inl e.1)] [] ids mG e.2 0 0 Rt) : pw l (px_R 4) y_Mo_beginsToRise c_Mo_beginsToRise 4 none 55 [(0, .inr (some (0, 0, 0))), (1, .inl v1), (2, .inl v2)] [] ids mG σ 0 0 Rt := by
  unfold Mo_beginsToRise_n55 at h
  refine pw_iinc (q := 2) (v := (v2 + 1)) (L' := [(2, .inl (v2 + 1)), (0, .inr (some (0, 0, 0))), (1, .inl v1)]) (px_at td_Mo_beginsToRise 31 rfl) rfl rfl (by decide) rfl ?_
  refine pw_goto 4 (px_at td_Mo_beginsToRise 32 rfl) (by decide) ?_
  refine pw_L [(0, .inr (some (0, 0, 0))), (1, .inl v1), (2, .inl (v2 + 1))] [1, 2, 0] rfl ?_
  exact hC (v1, (v2 + 1), σ) (Option.some.inj h).symm
def Mo_beginsToRise_n4 (σ : pxS) (v1 : Int32) (v2 : Int32) : Option ((Int32 × Int32 × pxS) ⊕ (Int32 × pxS)) :=
  (if (σ (1, 28, 0) 156) ≤ v2 then some (.inr (v1, σ)) else px_gd (157 + v2) 308 (px_b1 (F_Mo_whyNot σ (σ (1, 28, 0) (157 + v2).toNatClampNeg)) fun r2 =>
  (if r2 = 0 then px_gd (157 + v2) 308 (px_gd v1 12 (px_l (px_up σ (1, 35, 0) v1.toNatClampNeg (σ (1, 28, 0) (157 + v2).toNatClampNeg)) fun σ5 =>
  Mo_beginsToRise_n55 σ5 (v1 + 1) v2)) else Mo_beginsToRise_n55 σ v1 v2)))
set_option maxRecDepth 100000 in
theorem Mo_beginsToRise_n4_l {l : Launch} {ids : List pxI} {Rt : Option pxV → List pxI → pxG → pxS → Prop} {σ : pxS} {v1 : Int32} {v2 : Int32} {o : (Int32 × Int32 × pxS) ⊕ (Int32 × pxS)} (h : Mo_beginsToRise_n4 σ v1 v2 = some o) (hC : ∀ s, o = .inl s → pw l (px_R 4) y_Mo_beginsToRise c_Mo_beginsToRise 4 none 4 [(0, .inr (some (0, 0, 0))), (1, .inl s.1), (2, .inl s.2.1)] [] ids mG s.2.2 0 0 Rt) (hX0 : ∀ e, o = .inr e → pw l (px_R 4) y_Mo_beginsToRise c_Mo_beginsToRise 4 none 61 [(0, .inr (some (0, 0, 0))), (1, .inl e.1)] [] ids mG e.2 0 0 Rt) : pw l (px_R 4) y_Mo_beginsToRise c_Mo_beginsToRise 4 none 4 [(0, .inr (some (0, 0, 0))), (1, .inl v1), (2, .inl v2)] [] ids mG σ 0 0 Rt := by
  unfold Mo_beginsToRise_n4 at h
  refine pw_iload_n 2 (px_at td_Mo_beginsToRise 4 rfl) rfl rfl ?_
  refine pw_aload_n 0 (px_at td_Mo_beginsToRise 5 rfl) rfl rfl ?_
  refine pw_getf (v := .inr (some (1, 28, 0))) (px_at td_Mo_beginsToRise 6 rfl) lf_Mo_63 rfl rfl rfl ?_
  refine pw_sipush (v := 156) (px_at td_Mo_beginsToRise 7 rfl) (by decide) ?_
  refine pw_ial (px_at td_Mo_beginsToRise 8 rfl) rfl (px_inL (by decide) px_z156 (by decide)) px_z156 ?_
  rcases px_ite h with ⟨hc7, h⟩ | ⟨hc7, h⟩
  · refine pw_icmp_ge 61 (px_at td_Mo_beginsToRise 9 rfl) (by decide) (fun _ => ?_) (fun hn => absurd hc7 hn)
    refine pw_L [(0, .inr (some (0, 0, 0))), (1, .inl v1)] [0, 1] rfl ?_
    exact hX0 (v1, σ) (Option.some.inj h).symm
  · refine pw_icmp_ge 61 (px_at td_Mo_beginsToRise 9 rfl) (by decide) (fun hn => absurd hn hc7) (fun _ => ?_)
    refine pw_aload_n 0 (px_at td_Mo_beginsToRise 10 rfl) rfl rfl ?_
    refine pw_aload_n 0 (px_at td_Mo_beginsToRise 11 rfl) rfl rfl ?_
    refine pw_getf (v := .inr (some (1, 28, 0))) (px_at td_Mo_beginsToRise 12 rfl) lf_Mo_63 rfl rfl rfl ?_
    refine pw_sipush (v := 157) (px_at td_Mo_beginsToRise 13 rfl) (by decide) ?_
    refine pw_iload_n 2 (px_at td_Mo_beginsToRise 14 rfl) rfl rfl ?_
    refine pw_iadd (px_at td_Mo_beginsToRise 15 rfl) ?_
    obtain ⟨hi1, h⟩ := px_gd_e h
    refine pw_ial (px_at td_Mo_beginsToRise 16 rfl) rfl hi1 rfl ?_
    obtain ⟨r2, hk2, h⟩ := px_b1_e h
    refine pw_cV1 (0, 0, 0) [.inl (σ (1, 28, 0) (157 + v2).toNatClampNeg)] [] (px_at td_Mo_beginsToRise 17 rfl) lV_Mo_273 rfl rfl rfl (Nat.le_of_ble_eq_true rfl) (by decide) (k_Mo_whyNot hk2) ?_
    rcases px_ite h with ⟨hc6, h⟩ | ⟨hc6, h⟩
    · refine pw_if_eq 36 (px_at td_Mo_beginsToRise 18 rfl) (by decide) (fun _ => ?_) (fun hn => absurd hc6 hn)
      refine pw_aload_n 0 (px_at td_Mo_beginsToRise 20 rfl) rfl rfl ?_
      refine pw_getf (v := .inr (some (1, 35, 0))) (px_at td_Mo_beginsToRise 21 rfl) lf_Mo_78 rfl rfl rfl ?_
      refine pw_iload_n 1 (px_at td_Mo_beginsToRise 22 rfl) rfl rfl ?_
      refine pw_aload_n 0 (px_at td_Mo_beginsToRise 23 rfl) rfl rfl ?_
      refine pw_getf (v := .inr (some (1, 28, 0))) (px_at td_Mo_beginsToRise 24 rfl) lf_Mo_63 rfl rfl rfl ?_
      refine pw_sipush (v := 157) (px_at td_Mo_beginsToRise 25 rfl) (by decide) ?_
      refine pw_iload_n 2 (px_at td_Mo_beginsToRise 26 rfl) rfl rfl ?_
      refine pw_iadd (px_at td_Mo_beginsToRise 27 rfl) ?_
      obtain ⟨hi3, h⟩ := px_gd_e h
      refine pw_ial (px_at td_Mo_beginsToRise 28 rfl) rfl hi3 rfl ?_
      obtain ⟨hi4, h⟩ := px_gd_e h
      obtain ⟨σ5, hσ5, h⟩ := px_l_e h
      refine pw_ias (px_at td_Mo_beginsToRise 29 rfl) rfl hi4 rfl hσ5 ?_
      refine pw_iinc (q := 1) (v := (v1 + 1)) (L' := [(1, .inl (v1 + 1)), (0, .inr (some (0, 0, 0))), (2, .inl v2)]) (px_at td_Mo_beginsToRise 30 rfl) rfl rfl (by decide) rfl ?_
      refine pw_L [(0, .inr (some (0, 0, 0))), (1, .inl (v1 + 1)), (2, .inl v2)] [1, 0, 2] rfl ?_
      exact Mo_beginsToRise_n55_l h hC hX0
    · refine pw_if_eq 36 (px_at td_Mo_beginsToRise 18 rfl) (by decide) (fun hn => absurd hn hc6) (fun _ => ?_)
      refine pw_goto 55 (px_at td_Mo_beginsToRise 19 rfl) (by decide) ?_
      exact Mo_beginsToRise_n55_l h hC hX0
def Mo_beginsToRise_L4  : (Int32 × Int32 × pxS) → Option ((Int32 × Int32 × pxS) ⊕ (Int32 × pxS)) := fun s => Mo_beginsToRise_n4 s.2.2 s.1 s.2.1
set_option maxRecDepth 100000 in
theorem Mo_beginsToRise_L4_l {l : Launch} {ids : List pxI} {Rt : Option pxV → List pxI → pxG → pxS → Prop}  {n : Nat} {s : Int32 × Int32 × pxS} {e : Int32 × pxS} (h : px_it (Mo_beginsToRise_L4 ) n s = some e) (hX0 : pw l (px_R 4) y_Mo_beginsToRise c_Mo_beginsToRise 4 none 61 [(0, .inr (some (0, 0, 0))), (1, .inl e.1)] [] ids mG e.2 0 0 Rt) : pw l (px_R 4) y_Mo_beginsToRise c_Mo_beginsToRise 4 none 4 [(0, .inr (some (0, 0, 0))), (1, .inl s.1), (2, .inl s.2.1)] [] ids mG s.2.2 0 0 Rt := by
  refine px_it_rule (f := Mo_beginsToRise_L4 ) (C := fun s => pw l (px_R 4) y_Mo_beginsToRise c_Mo_beginsToRise 4 none 4 [(0, .inr (some (0, 0, 0))), (1, .inl s.1), (2, .inl s.2.1)] [] ids mG s.2.2 0 0 Rt) (X := fun e => (pw l (px_R 4) y_Mo_beginsToRise c_Mo_beginsToRise 4 none 61 [(0, .inr (some (0, 0, 0))), (1, .inl e.1)] [] ids mG e.2 0 0 Rt)) ?_ ?_ n s e h hX0
  · intro s s1 hf hC
    exact Mo_beginsToRise_n4_l hf (fun s2 hs => by cases hs; exact hC) (fun e he => by cases he)
  · intro s e hf hX
    exact Mo_beginsToRise_n4_l hf (fun s2 hs => by cases hs) (fun e1 he => by cases he; exact hX)
def Mo_beginsToRise_n63 (σ : pxS) (v1 : Int32) (v2 : Int32) : Option ((Int32 × pxS) ⊕ (pxS)) :=
  (if v1 ≤ v2 then some (.inr σ) else px_gd v2 12 (px_b1 (F_Mo_goesOut σ 156 (σ (1, 35, 0) v2.toNatClampNeg)) fun σ10 =>
  px_b1 (F_Mo_state_ σ10 (σ (1, 35, 0) v2.toNatClampNeg) 2) fun σ11 =>
  px_gd ((13 * (σ (1, 35, 0) v2.toNatClampNeg)) + 4) 308 (px_l (px_up σ11 (1, 28, 0) ((13 * (σ (1, 35, 0) v2.toNatClampNeg)) + 4).toNatClampNeg (σ11 (1, 28, 0) 182)) fun σ13 =>
  px_b1 (F_Mo_logs σ13 (σ (1, 35, 0) v2.toNatClampNeg) 0) fun σ14 =>
  some (.inl ((v2 + 1), σ14)))))
set_option maxRecDepth 100000 in
theorem Mo_beginsToRise_n63_l {l : Launch} {ids : List pxI} {Rt : Option pxV → List pxI → pxG → pxS → Prop} {σ : pxS} {v1 : Int32} {v2 : Int32} {o : (Int32 × pxS) ⊕ (pxS)} (h : Mo_beginsToRise_n63 σ v1 v2 = some o) (hC : ∀ s, o = .inl s → pw l (px_R 4) y_Mo_beginsToRise c_Mo_beginsToRise 4 none 63 [(0, .inr (some (0, 0, 0))), (1, .inl v1), (2, .inl s.1)] [] ids mG s.2 0 0 Rt) (hX0 : ∀ e, o = .inr e → pw l (px_R 4) y_Mo_beginsToRise c_Mo_beginsToRise 4 none 120 [] [] ids mG e 0 0 Rt) : pw l (px_R 4) y_Mo_beginsToRise c_Mo_beginsToRise 4 none 63 [(0, .inr (some (0, 0, 0))), (1, .inl v1), (2, .inl v2)] [] ids mG σ 0 0 Rt := by
  unfold Mo_beginsToRise_n63 at h
  refine pw_iload_n 2 (px_at td_Mo_beginsToRise 35 rfl) rfl rfl ?_
  refine pw_iload_n 1 (px_at td_Mo_beginsToRise 36 rfl) rfl rfl ?_
  rcases px_ite h with ⟨hc15, h⟩ | ⟨hc15, h⟩
  · refine pw_icmp_ge 120 (px_at td_Mo_beginsToRise 37 rfl) (by decide) (fun _ => ?_) (fun hn => absurd hc15 hn)
    refine pw_L [] [] rfl ?_
    exact hX0 σ (Option.some.inj h).symm
  · refine pw_icmp_ge 120 (px_at td_Mo_beginsToRise 37 rfl) (by decide) (fun hn => absurd hn hc15) (fun _ => ?_)
    refine pw_aload_n 0 (px_at td_Mo_beginsToRise 38 rfl) rfl rfl ?_
    refine pw_getf (v := .inr (some (1, 35, 0))) (px_at td_Mo_beginsToRise 39 rfl) lf_Mo_78 rfl rfl rfl ?_
    refine pw_iload_n 2 (px_at td_Mo_beginsToRise 40 rfl) rfl rfl ?_
    obtain ⟨hi9, h⟩ := px_gd_e h
    refine pw_ial (px_at td_Mo_beginsToRise 41 rfl) rfl hi9 rfl ?_
    refine pw_istore_n (L' := [(3, .inl (σ (1, 35, 0) v2.toNatClampNeg)), (0, .inr (some (0, 0, 0))), (1, .inl v1), (2, .inl v2)]) (px_at td_Mo_beginsToRise 42 rfl) rfl (by decide) rfl ?_
    refine pw_aload_n 1 (px_at td_Mo_beginsToRise 43 rfl) rfl rfl ?_
    refine pw_sipush (v := 156) (px_at td_Mo_beginsToRise 44 rfl) (by decide) ?_
    refine pw_iload_n 0 (px_at td_Mo_beginsToRise 45 rfl) rfl rfl ?_
    obtain ⟨σ10, hk10, h⟩ := px_b1_e h
    refine pw_cV0 (0, 0, 0) [.inl 156, .inl (σ (1, 35, 0) v2.toNatClampNeg)] [] (px_at td_Mo_beginsToRise 46 rfl) lV_Mo_238 rfl rfl rfl (Nat.le_of_ble_eq_true rfl) (by decide) (k_Mo_goesOut hk10) ?_
    refine pw_aload_n 1 (px_at td_Mo_beginsToRise 47 rfl) rfl rfl ?_
    refine pw_iload_n 0 (px_at td_Mo_beginsToRise 48 rfl) rfl rfl ?_
    refine pw_iconst (v := 2) (px_at td_Mo_beginsToRise 49 rfl) (by decide) ?_
    obtain ⟨σ11, hk11, h⟩ := px_b1_e h
    refine pw_cV0 (0, 0, 0) [.inl (σ (1, 35, 0) v2.toNatClampNeg), .inl 2] [] (px_at td_Mo_beginsToRise 50 rfl) lV_Mo_236 rfl rfl rfl (Nat.le_of_ble_eq_true rfl) (by decide) (k_Mo_state_ hk11) ?_
    refine pw_aload_n 1 (px_at td_Mo_beginsToRise 51 rfl) rfl rfl ?_
    refine pw_getf (v := .inr (some (1, 28, 0))) (px_at td_Mo_beginsToRise 52 rfl) lf_Mo_63 rfl rfl rfl ?_
    refine pw_bipush (v := 13) (px_at td_Mo_beginsToRise 53 rfl) (by decide) ?_
    refine pw_iload_n 0 (px_at td_Mo_beginsToRise 54 rfl) rfl rfl ?_
    refine pw_imul (px_at td_Mo_beginsToRise 55 rfl) ?_
    refine pw_iconst (v := 4) (px_at td_Mo_beginsToRise 56 rfl) (by decide) ?_
    refine pw_iadd (px_at td_Mo_beginsToRise 57 rfl) ?_
    refine pw_aload_n 1 (px_at td_Mo_beginsToRise 58 rfl) rfl rfl ?_
    refine pw_getf (v := .inr (some (1, 28, 0))) (px_at td_Mo_beginsToRise 59 rfl) lf_Mo_63 rfl rfl rfl ?_
    refine pw_sipush (v := 182) (px_at td_Mo_beginsToRise 60 rfl) (by decide) ?_
    refine pw_ial (px_at td_Mo_beginsToRise 61 rfl) rfl (px_inL (by decide) px_z182 (by decide)) px_z182 ?_
    obtain ⟨hi12, h⟩ := px_gd_e h
    obtain ⟨σ13, hσ13, h⟩ := px_l_e h
    refine pw_ias (px_at td_Mo_beginsToRise 62 rfl) rfl hi12 rfl hσ13 ?_
    refine pw_aload_n 1 (px_at td_Mo_beginsToRise 63 rfl) rfl rfl ?_
    refine pw_iload_n 0 (px_at td_Mo_beginsToRise 64 rfl) rfl rfl ?_
    refine pw_iconst (v := 0) (px_at td_Mo_beginsToRise 65 rfl) (by decide) ?_
    obtain ⟨σ14, hk14, h⟩ := px_b1_e h
    refine pw_cV0 (0, 0, 0) [.inl (σ (1, 35, 0) v2.toNatClampNeg), .inl 0] [] (px_at td_Mo_beginsToRise 66 rfl) lV_Mo_256 rfl rfl rfl (Nat.le_of_ble_eq_true rfl) (by decide) (k_Mo_logs hk14) ?_
    refine pw_iinc (q := 3) (v := (v2 + 1)) (L' := [(2, .inl (v2 + 1)), (3, .inl (σ (1, 35, 0) v2.toNatClampNeg)), (0, .inr (some (0, 0, 0))), (1, .inl v1)]) (px_at td_Mo_beginsToRise 67 rfl) rfl rfl (by decide) rfl ?_
    refine pw_goto 63 (px_at td_Mo_beginsToRise 68 rfl) (by decide) ?_
    refine pw_L [(0, .inr (some (0, 0, 0))), (1, .inl v1), (2, .inl (v2 + 1))] [2, 3, 0] rfl ?_
    exact hC ((v2 + 1), σ14) (Option.some.inj h).symm
def Mo_beginsToRise_L63 (v1 : Int32) : (Int32 × pxS) → Option ((Int32 × pxS) ⊕ (pxS)) := fun s => Mo_beginsToRise_n63 s.2 v1 s.1
set_option maxRecDepth 100000 in
theorem Mo_beginsToRise_L63_l {l : Launch} {ids : List pxI} {Rt : Option pxV → List pxI → pxG → pxS → Prop} {v1 : Int32} {n : Nat} {s : Int32 × pxS} {e : pxS} (h : px_it (Mo_beginsToRise_L63 v1) n s = some e) (hX0 : pw l (px_R 4) y_Mo_beginsToRise c_Mo_beginsToRise 4 none 120 [] [] ids mG e 0 0 Rt) : pw l (px_R 4) y_Mo_beginsToRise c_Mo_beginsToRise 4 none 63 [(0, .inr (some (0, 0, 0))), (1, .inl v1), (2, .inl s.1)] [] ids mG s.2 0 0 Rt := by
  refine px_it_rule (f := Mo_beginsToRise_L63 v1) (C := fun s => pw l (px_R 4) y_Mo_beginsToRise c_Mo_beginsToRise 4 none 63 [(0, .inr (some (0, 0, 0))), (1, .inl v1), (2, .inl s.1)] [] ids mG s.2 0 0 Rt) (X := fun e => (pw l (px_R 4) y_Mo_beginsToRise c_Mo_beginsToRise 4 none 120 [] [] ids mG e 0 0 Rt)) ?_ ?_ n s e h hX0
  · intro s s1 hf hC
    exact Mo_beginsToRise_n63_l hf (fun s2 hs => by cases hs; exact hC) (fun e he => by cases he)
  · intro s e hf hX
    exact Mo_beginsToRise_n63_l hf (fun s2 hs => by cases hs) (fun e1 he => by cases he; exact hX)
def F_Mo_beginsToRise (σ : pxS)  : Option (pxS) :=
  px_b1 (px_it (Mo_beginsToRise_L4 ) px_N (0, 0, σ)) fun e8 =>
  px_b1 (px_it (Mo_beginsToRise_L63 e8.1) px_N (0, e8.2)) fun e16 =>
  some e16
set_option maxRecDepth 100000 in
theorem e_Mo_beginsToRise {l : Launch} {ids : List pxI} {Rt : Option pxV → List pxI → pxG → pxS → Prop} {σ : pxS}  {res : pxS} (h : F_Mo_beginsToRise σ  = some res) (hR : Rt none ids mG res) : pw l (px_R 4) y_Mo_beginsToRise c_Mo_beginsToRise 4 none 0 [(0, .inr (some (0, 0, 0)))] [] ids mG σ 0 0 Rt := by
  unfold F_Mo_beginsToRise at h
  refine pw_iconst (v := 0) (px_at td_Mo_beginsToRise 0 rfl) (by decide) ?_
  refine pw_istore_n (L' := [(1, .inl 0), (0, .inr (some (0, 0, 0)))]) (px_at td_Mo_beginsToRise 1 rfl) rfl (by decide) rfl ?_
  refine pw_iconst (v := 0) (px_at td_Mo_beginsToRise 2 rfl) (by decide) ?_
  refine pw_istore_n (L' := [(2, .inl 0), (1, .inl 0), (0, .inr (some (0, 0, 0)))]) (px_at td_Mo_beginsToRise 3 rfl) rfl (by decide) rfl ?_
  obtain ⟨e8, he8, h⟩ := px_b1_e h
  refine pw_L [(0, .inr (some (0, 0, 0))), (1, .inl 0), (2, .inl 0)] [2, 1, 0] rfl ?_
  refine Mo_beginsToRise_L4_l he8 ?_
  refine pw_iconst (v := 0) (px_at td_Mo_beginsToRise 33 rfl) (by decide) ?_
  refine pw_istore_n (L' := [(2, .inl 0), (0, .inr (some (0, 0, 0))), (1, .inl e8.1)]) (px_at td_Mo_beginsToRise 34 rfl) rfl (by decide) rfl ?_
  obtain ⟨e16, he16, h⟩ := px_b1_e h
  refine pw_L [(0, .inr (some (0, 0, 0))), (1, .inl e8.1), (2, .inl 0)] [1, 2, 0] rfl ?_
  refine Mo_beginsToRise_L63_l he16 ?_
  obtain rfl := Option.some.inj h
  exact pw_vret (px_at td_Mo_beginsToRise 69 rfl) rfl (Nat.le_refl 0) (Nat.le_refl 0) hR
theorem k_Mo_beginsToRise {l : Launch} {ids : List pxI} {σ : pxS}  {res : pxS} (h : F_Mo_beginsToRise σ  = some res) : pm l y_Mo_beginsToRise c_Mo_beginsToRise 4 none (px_R 4) [.inr (some (0, 0, 0))] ids mG σ (px_r none ids mG res) :=
  pm_ofF (by decide +kernel) (Nat.le_of_ble_eq_true rfl) (e_Mo_beginsToRise h ⟨rfl, rfl, rfl, rfl⟩)
/-! Mo_voltsGo -/
def Mo_voltsGo_n273 (σ : pxS) (v1 : Int32) (v2 : Int32) (v3 : Int32) (v4 : Int32) : Option (pxS) :=
  px_gd (v2 + 1) 308 (px_l (px_up σ (1, 28, 0) (v2 + 1).toNatClampNeg v4) fun σ6 =>
  (if v4 ≤ v3 then px_gd v1 12 (px_l (px_up σ6 (1, 34, 0) v1.toNatClampNeg 0) fun σ8 =>
  px_b1 (F_Mo_state σ8 v1) fun r9 =>
  (if r9 = 3 then px_b1 (F_Mo_isGood σ8 v1) fun r12 =>
  (if r12 = 0 then px_gd (v2 + 9) 308 (px_gd (v2 + 9) 308 (px_l (px_up σ8 (1, 28, 0) (v2 + 9).toNatClampNeg ((σ8 (1, 28, 0) (v2 + 9).toNatClampNeg) + 1)) fun σ17 =>
  some σ17)) else px_gd (v2 + 9) 308 (px_l (px_up σ8 (1, 28, 0) (v2 + 9).toNatClampNeg 0) fun σ14 =>
  some σ14)) else px_gd (v2 + 9) 308 (px_l (px_up σ8 (1, 28, 0) (v2 + 9).toNatClampNeg 0) fun σ11 =>
  some σ11))) else px_gd v1 12 (px_l (px_up σ6 (1, 34, 0) v1.toNatClampNeg (v4 - v3)) fun σ21 =>
  px_b1 (F_Mo_state σ21 v1) fun r22 =>
  (if r22 = 3 then px_b1 (F_Mo_isGood σ21 v1) fun r25 =>
  (if r25 = 0 then px_gd (v2 + 9) 308 (px_gd (v2 + 9) 308 (px_l (px_up σ21 (1, 28, 0) (v2 + 9).toNatClampNeg ((σ21 (1, 28, 0) (v2 + 9).toNatClampNeg) + 1)) fun σ30 =>
  some σ30)) else px_gd (v2 + 9) 308 (px_l (px_up σ21 (1, 28, 0) (v2 + 9).toNatClampNeg 0) fun σ27 =>
  some σ27)) else px_gd (v2 + 9) 308 (px_l (px_up σ21 (1, 28, 0) (v2 + 9).toNatClampNeg 0) fun σ24 =>
  some σ24)))))
set_option maxRecDepth 100000 in
theorem Mo_voltsGo_n273_l {l : Launch} {ids : List pxI} {Rt : Option pxV → List pxI → pxG → pxS → Prop} {σ : pxS} {v1 : Int32} {v2 : Int32} {v3 : Int32} {v4 : Int32} {res : pxS} (h : Mo_voltsGo_n273 σ v1 v2 v3 v4 = some res) (hR : Rt none ids mG res) : pw l (px_R 3) y_Mo_voltsGo c_Mo_voltsGo 5 none 273 [(0, .inr (some (0, 0, 0))), (1, .inl v1), (2, .inl v2), (3, .inl v3), (4, .inl v4)] [] ids mG σ 0 0 Rt := by
  unfold Mo_voltsGo_n273 at h
  refine pw_aload_n 0 (px_at td_Mo_voltsGo 165 rfl) rfl rfl ?_
  refine pw_getf (v := .inr (some (1, 28, 0))) (px_at td_Mo_voltsGo 166 rfl) lf_Mo_63 rfl rfl rfl ?_
  refine pw_iload_n 2 (px_at td_Mo_voltsGo 167 rfl) rfl rfl ?_
  refine pw_iconst (v := 1) (px_at td_Mo_voltsGo 168 rfl) (by decide) ?_
  refine pw_iadd (px_at td_Mo_voltsGo 169 rfl) ?_
  refine pw_iload 4 (px_at td_Mo_voltsGo 170 rfl) rfl ?_
  obtain ⟨hi5, h⟩ := px_gd_e h
  obtain ⟨σ6, hσ6, h⟩ := px_l_e h
  refine pw_ias (px_at td_Mo_voltsGo 171 rfl) rfl hi5 rfl hσ6 ?_
  refine pw_aload_n 0 (px_at td_Mo_voltsGo 172 rfl) rfl rfl ?_
  refine pw_getf (v := .inr (some (1, 34, 0))) (px_at td_Mo_voltsGo 173 rfl) lf_Mo_75 rfl rfl rfl ?_
  refine pw_iload_n 1 (px_at td_Mo_voltsGo 174 rfl) rfl rfl ?_
  refine pw_iload 4 (px_at td_Mo_voltsGo 175 rfl) rfl ?_
  refine pw_iload_n 3 (px_at td_Mo_voltsGo 176 rfl) rfl rfl ?_
  rcases px_ite h with ⟨hc33, h⟩ | ⟨hc33, h⟩
  · refine pw_icmp_le 301 (px_at td_Mo_voltsGo 177 rfl) (by decide) (fun _ => ?_) (fun hn => absurd hc33 hn)
    refine pw_iconst (v := 0) (px_at td_Mo_voltsGo 182 rfl) (by decide) ?_
    obtain ⟨hi7, h⟩ := px_gd_e h
    obtain ⟨σ8, hσ8, h⟩ := px_l_e h
    refine pw_ias (px_at td_Mo_voltsGo 183 rfl) rfl hi7 rfl hσ8 ?_
    refine pw_aload_n 0 (px_at td_Mo_voltsGo 184 rfl) rfl rfl ?_
    refine pw_getf (v := .inr (some (1, 28, 0))) (px_at td_Mo_voltsGo 185 rfl) lf_Mo_63 rfl rfl rfl ?_
    refine pw_iload_n 2 (px_at td_Mo_voltsGo 186 rfl) rfl rfl ?_
    refine pw_bipush (v := 9) (px_at td_Mo_voltsGo 187 rfl) (by decide) ?_
    refine pw_iadd (px_at td_Mo_voltsGo 188 rfl) ?_
    refine pw_aload_n 0 (px_at td_Mo_voltsGo 189 rfl) rfl rfl ?_
    refine pw_iload_n 1 (px_at td_Mo_voltsGo 190 rfl) rfl rfl ?_
    obtain ⟨r9, hk9, h⟩ := px_b1_e h
    refine pw_cV1 (0, 0, 0) [.inl v1] [.inl (v2 + 9), .inr (some (1, 28, 0))] (px_at td_Mo_voltsGo 191 rfl) lV_Mo_230 rfl rfl rfl (Nat.le_of_ble_eq_true rfl) (by decide) (k_Mo_state hk9) ?_
    refine pw_iconst (v := 3) (px_at td_Mo_voltsGo 192 rfl) (by decide) ?_
    rcases px_ite h with ⟨hc19, h⟩ | ⟨hc19, h⟩
    · refine pw_icmp_ne 342 (px_at td_Mo_voltsGo 193 rfl) (by decide) (fun hn => absurd hc19 hn) (fun _ => ?_)
      refine pw_aload_n 0 (px_at td_Mo_voltsGo 194 rfl) rfl rfl ?_
      refine pw_iload_n 1 (px_at td_Mo_voltsGo 195 rfl) rfl rfl ?_
      obtain ⟨r12, hk12, h⟩ := px_b1_e h
      refine pw_cV1 (0, 0, 0) [.inl v1] [.inl (v2 + 9), .inr (some (1, 28, 0))] (px_at td_Mo_voltsGo 196 rfl) lV_Mo_266 rfl rfl rfl (Nat.le_of_ble_eq_true rfl) (by decide) (k_Mo_isGood hk12) ?_
      rcases px_ite h with ⟨hc18, h⟩ | ⟨hc18, h⟩
      · refine pw_if_ne 342 (px_at td_Mo_voltsGo 197 rfl) (by decide) (fun hn => absurd hc18 hn) (fun _ => ?_)
        refine pw_aload_n 0 (px_at td_Mo_voltsGo 198 rfl) rfl rfl ?_
        refine pw_getf (v := .inr (some (1, 28, 0))) (px_at td_Mo_voltsGo 199 rfl) lf_Mo_63 rfl rfl rfl ?_
        refine pw_iload_n 2 (px_at td_Mo_voltsGo 200 rfl) rfl rfl ?_
        refine pw_bipush (v := 9) (px_at td_Mo_voltsGo 201 rfl) (by decide) ?_
        refine pw_iadd (px_at td_Mo_voltsGo 202 rfl) ?_
        obtain ⟨hi15, h⟩ := px_gd_e h
        refine pw_ial (px_at td_Mo_voltsGo 203 rfl) rfl hi15 rfl ?_
        refine pw_iconst (v := 1) (px_at td_Mo_voltsGo 204 rfl) (by decide) ?_
        refine pw_iadd (px_at td_Mo_voltsGo 205 rfl) ?_
        refine pw_goto 343 (px_at td_Mo_voltsGo 206 rfl) (by decide) ?_
        obtain ⟨hi16, h⟩ := px_gd_e h
        obtain ⟨σ17, hσ17, h⟩ := px_l_e h
        refine pw_ias (px_at td_Mo_voltsGo 208 rfl) rfl hi16 rfl hσ17 ?_
        obtain rfl := Option.some.inj h
        exact pw_vret (px_at td_Mo_voltsGo 209 rfl) rfl (Nat.le_refl 0) (Nat.le_refl 0) hR
      · refine pw_if_ne 342 (px_at td_Mo_voltsGo 197 rfl) (by decide) (fun _ => ?_) (fun hn => absurd hn hc18)
        refine pw_iconst (v := 0) (px_at td_Mo_voltsGo 207 rfl) (by decide) ?_
        obtain ⟨hi13, h⟩ := px_gd_e h
        obtain ⟨σ14, hσ14, h⟩ := px_l_e h
        refine pw_ias (px_at td_Mo_voltsGo 208 rfl) rfl hi13 rfl hσ14 ?_
        obtain rfl := Option.some.inj h
        exact pw_vret (px_at td_Mo_voltsGo 209 rfl) rfl (Nat.le_refl 0) (Nat.le_refl 0) hR
    · refine pw_icmp_ne 342 (px_at td_Mo_voltsGo 193 rfl) (by decide) (fun _ => ?_) (fun hn => absurd hn hc19)
      refine pw_iconst (v := 0) (px_at td_Mo_voltsGo 207 rfl) (by decide) ?_
      obtain ⟨hi10, h⟩ := px_gd_e h
      obtain ⟨σ11, hσ11, h⟩ := px_l_e h
      refine pw_ias (px_at td_Mo_voltsGo 208 rfl) rfl hi10 rfl hσ11 ?_
      obtain rfl := Option.some.inj h
      exact pw_vret (px_at td_Mo_voltsGo 209 rfl) rfl (Nat.le_refl 0) (Nat.le_refl 0) hR
  · refine pw_icmp_le 301 (px_at td_Mo_voltsGo 177 rfl) (by decide) (fun hn => absurd hn hc33) (fun _ => ?_)
    refine pw_iload 4 (px_at td_Mo_voltsGo 178 rfl) rfl ?_
    refine pw_iload_n 3 (px_at td_Mo_voltsGo 179 rfl) rfl rfl ?_
    refine pw_isub (px_at td_Mo_voltsGo 180 rfl) ?_
    refine pw_goto 302 (px_at td_Mo_voltsGo 181 rfl) (by decide) ?_
    obtain ⟨hi20, h⟩ := px_gd_e h
    obtain ⟨σ21, hσ21, h⟩ := px_l_e h
    refine pw_ias (px_at td_Mo_voltsGo 183 rfl) rfl hi20 rfl hσ21 ?_
    refine pw_aload_n 0 (px_at td_Mo_voltsGo 184 rfl) rfl rfl ?_
    refine pw_getf (v := .inr (some (1, 28, 0))) (px_at td_Mo_voltsGo 185 rfl) lf_Mo_63 rfl rfl rfl ?_
    refine pw_iload_n 2 (px_at td_Mo_voltsGo 186 rfl) rfl rfl ?_
    refine pw_bipush (v := 9) (px_at td_Mo_voltsGo 187 rfl) (by decide) ?_
    refine pw_iadd (px_at td_Mo_voltsGo 188 rfl) ?_
    refine pw_aload_n 0 (px_at td_Mo_voltsGo 189 rfl) rfl rfl ?_
    refine pw_iload_n 1 (px_at td_Mo_voltsGo 190 rfl) rfl rfl ?_
    obtain ⟨r22, hk22, h⟩ := px_b1_e h
    refine pw_cV1 (0, 0, 0) [.inl v1] [.inl (v2 + 9), .inr (some (1, 28, 0))] (px_at td_Mo_voltsGo 191 rfl) lV_Mo_230 rfl rfl rfl (Nat.le_of_ble_eq_true rfl) (by decide) (k_Mo_state hk22) ?_
    refine pw_iconst (v := 3) (px_at td_Mo_voltsGo 192 rfl) (by decide) ?_
    rcases px_ite h with ⟨hc32, h⟩ | ⟨hc32, h⟩
    · refine pw_icmp_ne 342 (px_at td_Mo_voltsGo 193 rfl) (by decide) (fun hn => absurd hc32 hn) (fun _ => ?_)
      refine pw_aload_n 0 (px_at td_Mo_voltsGo 194 rfl) rfl rfl ?_
      refine pw_iload_n 1 (px_at td_Mo_voltsGo 195 rfl) rfl rfl ?_
      obtain ⟨r25, hk25, h⟩ := px_b1_e h
      refine pw_cV1 (0, 0, 0) [.inl v1] [.inl (v2 + 9), .inr (some (1, 28, 0))] (px_at td_Mo_voltsGo 196 rfl) lV_Mo_266 rfl rfl rfl (Nat.le_of_ble_eq_true rfl) (by decide) (k_Mo_isGood hk25) ?_
      rcases px_ite h with ⟨hc31, h⟩ | ⟨hc31, h⟩
      · refine pw_if_ne 342 (px_at td_Mo_voltsGo 197 rfl) (by decide) (fun hn => absurd hc31 hn) (fun _ => ?_)
        refine pw_aload_n 0 (px_at td_Mo_voltsGo 198 rfl) rfl rfl ?_
        refine pw_getf (v := .inr (some (1, 28, 0))) (px_at td_Mo_voltsGo 199 rfl) lf_Mo_63 rfl rfl rfl ?_
        refine pw_iload_n 2 (px_at td_Mo_voltsGo 200 rfl) rfl rfl ?_
        refine pw_bipush (v := 9) (px_at td_Mo_voltsGo 201 rfl) (by decide) ?_
        refine pw_iadd (px_at td_Mo_voltsGo 202 rfl) ?_
        obtain ⟨hi28, h⟩ := px_gd_e h
        refine pw_ial (px_at td_Mo_voltsGo 203 rfl) rfl hi28 rfl ?_
        refine pw_iconst (v := 1) (px_at td_Mo_voltsGo 204 rfl) (by decide) ?_
        refine pw_iadd (px_at td_Mo_voltsGo 205 rfl) ?_
        refine pw_goto 343 (px_at td_Mo_voltsGo 206 rfl) (by decide) ?_
        obtain ⟨hi29, h⟩ := px_gd_e h
        obtain ⟨σ30, hσ30, h⟩ := px_l_e h
        refine pw_ias (px_at td_Mo_voltsGo 208 rfl) rfl hi29 rfl hσ30 ?_
        obtain rfl := Option.some.inj h
        exact pw_vret (px_at td_Mo_voltsGo 209 rfl) rfl (Nat.le_refl 0) (Nat.le_refl 0) hR
      · refine pw_if_ne 342 (px_at td_Mo_voltsGo 197 rfl) (by decide) (fun _ => ?_) (fun hn => absurd hn hc31)
        refine pw_iconst (v := 0) (px_at td_Mo_voltsGo 207 rfl) (by decide) ?_
        obtain ⟨hi26, h⟩ := px_gd_e h
        obtain ⟨σ27, hσ27, h⟩ := px_l_e h
        refine pw_ias (px_at td_Mo_voltsGo 208 rfl) rfl hi26 rfl hσ27 ?_
        obtain rfl := Option.some.inj h
        exact pw_vret (px_at td_Mo_voltsGo 209 rfl) rfl (Nat.le_refl 0) (Nat.le_refl 0) hR
    · refine pw_icmp_ne 342 (px_at td_Mo_voltsGo 193 rfl) (by decide) (fun _ => ?_) (fun hn => absurd hn hc32)
      refine pw_iconst (v := 0) (px_at td_Mo_voltsGo 207 rfl) (by decide) ?_
      obtain ⟨hi23, h⟩ := px_gd_e h
      obtain ⟨σ24, hσ24, h⟩ := px_l_e h
      refine pw_ias (px_at td_Mo_voltsGo 208 rfl) rfl hi23 rfl hσ24 ?_
      obtain rfl := Option.some.inj h
      exact pw_vret (px_at td_Mo_voltsGo 209 rfl) rfl (Nat.le_refl 0) (Nat.le_refl 0) hR
def F_Mo_voltsGo (σ : pxS) (v1 : Int32) : Option (pxS) :=
  px_gd ((13 * v1) + 1) 308 (px_b1 (F_Mo_state σ v1) fun r2 =>
  (if r2 = 2 then px_gd v1 24 (px_gd v1 24 ((if (σ (1, 7, 0) v1.toNatClampNeg) ≤ ((σ (1, 28, 0) ((13 * v1) + 1).toNatClampNeg) + (σ (1, 8, 0) v1.toNatClampNeg)) then px_gd v1 24 (px_gd v1 24 ((if (σ (1, 7, 0) v1.toNatClampNeg) = (σ (1, 7, 0) v1.toNatClampNeg) then px_b1 (F_Mo_state_ σ v1 3) fun σ69 =>
  px_b1 (F_Mo_logs σ69 v1 1) fun σ70 =>
  Mo_voltsGo_n273 σ70 v1 (13 * v1) (σ (1, 28, 0) ((13 * v1) + 1).toNatClampNeg) (σ (1, 7, 0) v1.toNatClampNeg) else Mo_voltsGo_n273 σ v1 (13 * v1) (σ (1, 28, 0) ((13 * v1) + 1).toNatClampNeg) (σ (1, 7, 0) v1.toNatClampNeg)))) else px_gd v1 24 (px_gd v1 24 ((if ((σ (1, 28, 0) ((13 * v1) + 1).toNatClampNeg) + (σ (1, 8, 0) v1.toNatClampNeg)) = (σ (1, 7, 0) v1.toNatClampNeg) then px_b1 (F_Mo_state_ σ v1 3) fun σ74 =>
  px_b1 (F_Mo_logs σ74 v1 1) fun σ75 =>
  Mo_voltsGo_n273 σ75 v1 (13 * v1) (σ (1, 28, 0) ((13 * v1) + 1).toNatClampNeg) ((σ (1, 28, 0) ((13 * v1) + 1).toNatClampNeg) + (σ (1, 8, 0) v1.toNatClampNeg)) else Mo_voltsGo_n273 σ v1 (13 * v1) (σ (1, 28, 0) ((13 * v1) + 1).toNatClampNeg) ((σ (1, 28, 0) ((13 * v1) + 1).toNatClampNeg) + (σ (1, 8, 0) v1.toNatClampNeg)))))))) else px_b1 (F_Mo_state σ v1) fun r3 =>
  (if r3 = 3 then px_gd ((13 * v1) + 3) 308 ((if (σ (1, 28, 0) ((13 * v1) + 3).toNatClampNeg) = 1 then (if 0 ≤ ((σ (1, 28, 0) ((13 * v1) + 1).toNatClampNeg) - (σ (1, 3, 0) 3)) then px_gd v1 24 ((if ((σ (1, 28, 0) ((13 * v1) + 1).toNatClampNeg) - (σ (1, 3, 0) 3)) ≤ (σ (1, 7, 0) v1.toNatClampNeg) then Mo_voltsGo_n273 σ v1 (13 * v1) (σ (1, 28, 0) ((13 * v1) + 1).toNatClampNeg) ((σ (1, 28, 0) ((13 * v1) + 1).toNatClampNeg) - (σ (1, 3, 0) 3)) else px_gd v1 24 (Mo_voltsGo_n273 σ v1 (13 * v1) (σ (1, 28, 0) ((13 * v1) + 1).toNatClampNeg) (σ (1, 7, 0) v1.toNatClampNeg)))) else Mo_voltsGo_n273 σ v1 (13 * v1) (σ (1, 28, 0) ((13 * v1) + 1).toNatClampNeg) 0) else px_gd v1 24 ((if 0 ≤ ((σ (1, 28, 0) ((13 * v1) + 1).toNatClampNeg) + (σ (1, 8, 0) v1.toNatClampNeg)) then px_gd v1 24 ((if ((σ (1, 28, 0) ((13 * v1) + 1).toNatClampNeg) + (σ (1, 8, 0) v1.toNatClampNeg)) ≤ (σ (1, 7, 0) v1.toNatClampNeg) then Mo_voltsGo_n273 σ v1 (13 * v1) (σ (1, 28, 0) ((13 * v1) + 1).toNatClampNeg) ((σ (1, 28, 0) ((13 * v1) + 1).toNatClampNeg) + (σ (1, 8, 0) v1.toNatClampNeg)) else px_gd v1 24 (Mo_voltsGo_n273 σ v1 (13 * v1) (σ (1, 28, 0) ((13 * v1) + 1).toNatClampNeg) (σ (1, 7, 0) v1.toNatClampNeg)))) else Mo_voltsGo_n273 σ v1 (13 * v1) (σ (1, 28, 0) ((13 * v1) + 1).toNatClampNeg) 0)))) else px_b1 (F_Mo_state σ v1) fun r4 =>
  (if r4 = 4 then (if (σ (1, 28, 0) ((13 * v1) + 1).toNatClampNeg) ≤ (σ (1, 3, 0) 4) then px_b1 (F_Mo_state_ σ v1 0) fun σ34 =>
  px_b1 (F_Mo_logs σ34 v1 4) fun σ35 =>
  px_gd ((13 * v1) + 12) 308 ((if (σ35 (1, 28, 0) ((13 * v1) + 12).toNatClampNeg) = 1 then px_gd ((13 * v1) + 11) 308 ((if (σ35 (1, 3, 0) 9) ≤ (σ35 (1, 28, 0) ((13 * v1) + 11).toNatClampNeg) then Mo_voltsGo_n273 σ35 v1 (13 * v1) (σ (1, 28, 0) ((13 * v1) + 1).toNatClampNeg) 0 else px_gd ((13 * v1) + 10) 308 (px_l (px_up σ35 (1, 28, 0) ((13 * v1) + 10).toNatClampNeg ((σ35 (1, 28, 0) 182) + (σ35 (1, 3, 0) 10))) fun σ39 =>
  Mo_voltsGo_n273 σ39 v1 (13 * v1) (σ (1, 28, 0) ((13 * v1) + 1).toNatClampNeg) 0))) else Mo_voltsGo_n273 σ35 v1 (13 * v1) (σ (1, 28, 0) ((13 * v1) + 1).toNatClampNeg) 0)) else (if ((σ (1, 28, 0) ((13 * v1) + 1).toNatClampNeg) - (σ (1, 3, 0) 4)) = 0 then px_b1 (F_Mo_state_ σ v1 0) fun σ42 =>
  px_b1 (F_Mo_logs σ42 v1 4) fun σ43 =>
  px_gd ((13 * v1) + 12) 308 ((if (σ43 (1, 28, 0) ((13 * v1) + 12).toNatClampNeg) = 1 then px_gd ((13 * v1) + 11) 308 ((if (σ43 (1, 3, 0) 9) ≤ (σ43 (1, 28, 0) ((13 * v1) + 11).toNatClampNeg) then Mo_voltsGo_n273 σ43 v1 (13 * v1) (σ (1, 28, 0) ((13 * v1) + 1).toNatClampNeg) ((σ (1, 28, 0) ((13 * v1) + 1).toNatClampNeg) - (σ (1, 3, 0) 4)) else px_gd ((13 * v1) + 10) 308 (px_l (px_up σ43 (1, 28, 0) ((13 * v1) + 10).toNatClampNeg ((σ43 (1, 28, 0) 182) + (σ43 (1, 3, 0) 10))) fun σ47 =>
  Mo_voltsGo_n273 σ47 v1 (13 * v1) (σ (1, 28, 0) ((13 * v1) + 1).toNatClampNeg) ((σ (1, 28, 0) ((13 * v1) + 1).toNatClampNeg) - (σ (1, 3, 0) 4))))) else Mo_voltsGo_n273 σ43 v1 (13 * v1) (σ (1, 28, 0) ((13 * v1) + 1).toNatClampNeg) ((σ (1, 28, 0) ((13 * v1) + 1).toNatClampNeg) - (σ (1, 3, 0) 4)))) else Mo_voltsGo_n273 σ v1 (13 * v1) (σ (1, 28, 0) ((13 * v1) + 1).toNatClampNeg) ((σ (1, 28, 0) ((13 * v1) + 1).toNatClampNeg) - (σ (1, 3, 0) 4)))) else Mo_voltsGo_n273 σ v1 (13 * v1) (σ (1, 28, 0) ((13 * v1) + 1).toNatClampNeg) (σ (1, 28, 0) ((13 * v1) + 1).toNatClampNeg)))))
set_option maxRecDepth 100000 in
theorem e_Mo_voltsGo {l : Launch} {ids : List pxI} {Rt : Option pxV → List pxI → pxG → pxS → Prop} {σ : pxS} {v1 : Int32} {res : pxS} (h : F_Mo_voltsGo σ v1 = some res) (hR : Rt none ids mG res) : pw l (px_R 3) y_Mo_voltsGo c_Mo_voltsGo 5 none 0 [(0, .inr (some (0, 0, 0))), (1, .inl v1)] [] ids mG σ 0 0 Rt := by
  unfold F_Mo_voltsGo at h
  refine pw_bipush (v := 13) (px_at td_Mo_voltsGo 0 rfl) (by decide) ?_
  refine pw_iload_n 1 (px_at td_Mo_voltsGo 1 rfl) rfl rfl ?_
  refine pw_imul (px_at td_Mo_voltsGo 2 rfl) ?_
  refine pw_istore_n (L' := [(2, .inl (13 * v1)), (0, .inr (some (0, 0, 0))), (1, .inl v1)]) (px_at td_Mo_voltsGo 3 rfl) rfl (by decide) rfl ?_
  refine pw_aload_n 1 (px_at td_Mo_voltsGo 4 rfl) rfl rfl ?_
  refine pw_getf (v := .inr (some (1, 28, 0))) (px_at td_Mo_voltsGo 5 rfl) lf_Mo_63 rfl rfl rfl ?_
  refine pw_iload_n 0 (px_at td_Mo_voltsGo 6 rfl) rfl rfl ?_
  refine pw_iconst (v := 1) (px_at td_Mo_voltsGo 7 rfl) (by decide) ?_
  refine pw_iadd (px_at td_Mo_voltsGo 8 rfl) ?_
  obtain ⟨hi1, h⟩ := px_gd_e h
  refine pw_ial (px_at td_Mo_voltsGo 9 rfl) rfl hi1 rfl ?_
  refine pw_istore_n (L' := [(3, .inl (σ (1, 28, 0) ((13 * v1) + 1).toNatClampNeg)), (2, .inl (13 * v1)), (0, .inr (some (0, 0, 0))), (1, .inl v1)]) (px_at td_Mo_voltsGo 10 rfl) rfl (by decide) rfl ?_
  refine pw_iload_n 0 (px_at td_Mo_voltsGo 11 rfl) rfl rfl ?_
  refine pw_istore (L' := [(4, .inl (σ (1, 28, 0) ((13 * v1) + 1).toNatClampNeg)), (3, .inl (σ (1, 28, 0) ((13 * v1) + 1).toNatClampNeg)), (2, .inl (13 * v1)), (0, .inr (some (0, 0, 0))), (1, .inl v1)]) (px_at td_Mo_voltsGo 12 rfl) (by decide) rfl ?_
  refine pw_aload_n 3 (px_at td_Mo_voltsGo 13 rfl) rfl rfl ?_
  refine pw_iload_n 4 (px_at td_Mo_voltsGo 14 rfl) rfl rfl ?_
  obtain ⟨r2, hk2, h⟩ := px_b1_e h
  refine pw_cV1 (0, 0, 0) [.inl v1] [] (px_at td_Mo_voltsGo 15 rfl) lV_Mo_230 rfl rfl rfl (Nat.le_of_ble_eq_true rfl) (by decide) (k_Mo_state hk2) ?_
  refine pw_iconst (v := 2) (px_at td_Mo_voltsGo 16 rfl) (by decide) ?_
  rcases px_ite h with ⟨hc78, h⟩ | ⟨hc78, h⟩
  · refine pw_icmp_ne 88 (px_at td_Mo_voltsGo 17 rfl) (by decide) (fun hn => absurd hc78 hn) (fun _ => ?_)
    refine pw_iload_n 1 (px_at td_Mo_voltsGo 18 rfl) rfl rfl ?_
    refine pw_aload_n 3 (px_at td_Mo_voltsGo 19 rfl) rfl rfl ?_
    refine pw_getf (v := .inr (some (1, 8, 0))) (px_at td_Mo_voltsGo 20 rfl) lf_Mo_29 rfl rfl rfl ?_
    refine pw_iload_n 4 (px_at td_Mo_voltsGo 21 rfl) rfl rfl ?_
    obtain ⟨hi65, h⟩ := px_gd_e h
    refine pw_ial (px_at td_Mo_voltsGo 22 rfl) rfl hi65 rfl ?_
    refine pw_iadd (px_at td_Mo_voltsGo 23 rfl) ?_
    refine pw_aload_n 3 (px_at td_Mo_voltsGo 24 rfl) rfl rfl ?_
    refine pw_getf (v := .inr (some (1, 7, 0))) (px_at td_Mo_voltsGo 25 rfl) lf_Mo_26 rfl rfl rfl ?_
    refine pw_iload_n 4 (px_at td_Mo_voltsGo 26 rfl) rfl rfl ?_
    obtain ⟨hi66, h⟩ := px_gd_e h
    refine pw_ial (px_at td_Mo_voltsGo 27 rfl) rfl hi66 rfl ?_
    rcases px_ite h with ⟨hc77, h⟩ | ⟨hc77, h⟩
    · refine pw_icmp_ge 54 (px_at td_Mo_voltsGo 28 rfl) (by decide) (fun _ => ?_) (fun hn => absurd hc77 hn)
      refine pw_aload_n 3 (px_at td_Mo_voltsGo 36 rfl) rfl rfl ?_
      refine pw_getf (v := .inr (some (1, 7, 0))) (px_at td_Mo_voltsGo 37 rfl) lf_Mo_26 rfl rfl rfl ?_
      refine pw_iload_n 4 (px_at td_Mo_voltsGo 38 rfl) rfl rfl ?_
      obtain ⟨hi67, h⟩ := px_gd_e h
      refine pw_ial (px_at td_Mo_voltsGo 39 rfl) rfl hi67 rfl ?_
      refine pw_istore (L' := [(4, .inl (σ (1, 7, 0) v1.toNatClampNeg)), (3, .inl (σ (1, 28, 0) ((13 * v1) + 1).toNatClampNeg)), (2, .inl (13 * v1)), (0, .inr (some (0, 0, 0))), (1, .inl v1)]) (px_at td_Mo_voltsGo 40 rfl) (by decide) rfl ?_
      refine pw_iload 0 (px_at td_Mo_voltsGo 41 rfl) rfl ?_
      refine pw_aload_n 3 (px_at td_Mo_voltsGo 42 rfl) rfl rfl ?_
      refine pw_getf (v := .inr (some (1, 7, 0))) (px_at td_Mo_voltsGo 43 rfl) lf_Mo_26 rfl rfl rfl ?_
      refine pw_iload_n 4 (px_at td_Mo_voltsGo 44 rfl) rfl rfl ?_
      obtain ⟨hi68, h⟩ := px_gd_e h
      refine pw_ial (px_at td_Mo_voltsGo 45 rfl) rfl hi68 rfl ?_
      rcases px_ite h with ⟨hc71, h⟩ | ⟨hc71, h⟩
      · refine pw_icmp_ne 273 (px_at td_Mo_voltsGo 46 rfl) (by decide) (fun hn => absurd hc71 hn) (fun _ => ?_)
        refine pw_aload_n 3 (px_at td_Mo_voltsGo 47 rfl) rfl rfl ?_
        refine pw_iload_n 4 (px_at td_Mo_voltsGo 48 rfl) rfl rfl ?_
        refine pw_iconst (v := 3) (px_at td_Mo_voltsGo 49 rfl) (by decide) ?_
        obtain ⟨σ69, hk69, h⟩ := px_b1_e h
        refine pw_cV0 (0, 0, 0) [.inl v1, .inl 3] [] (px_at td_Mo_voltsGo 50 rfl) lV_Mo_236 rfl rfl rfl (Nat.le_of_ble_eq_true rfl) (by decide) (k_Mo_state_ hk69) ?_
        refine pw_aload_n 3 (px_at td_Mo_voltsGo 51 rfl) rfl rfl ?_
        refine pw_iload_n 4 (px_at td_Mo_voltsGo 52 rfl) rfl rfl ?_
        refine pw_iconst (v := 1) (px_at td_Mo_voltsGo 53 rfl) (by decide) ?_
        obtain ⟨σ70, hk70, h⟩ := px_b1_e h
        refine pw_cV0 (0, 0, 0) [.inl v1, .inl 1] [] (px_at td_Mo_voltsGo 54 rfl) lV_Mo_256 rfl rfl rfl (Nat.le_of_ble_eq_true rfl) (by decide) (k_Mo_logs hk70) ?_
        refine pw_goto 273 (px_at td_Mo_voltsGo 55 rfl) (by decide) ?_
        refine pw_L [(0, .inr (some (0, 0, 0))), (1, .inl v1), (2, .inl (13 * v1)), (3, .inl (σ (1, 28, 0) ((13 * v1) + 1).toNatClampNeg)), (4, .inl (σ (1, 7, 0) v1.toNatClampNeg))] [3, 4, 2, 1, 0] rfl ?_
        exact Mo_voltsGo_n273_l h hR
      · refine pw_icmp_ne 273 (px_at td_Mo_voltsGo 46 rfl) (by decide) (fun _ => ?_) (fun hn => absurd hn hc71)
        refine pw_L [(0, .inr (some (0, 0, 0))), (1, .inl v1), (2, .inl (13 * v1)), (3, .inl (σ (1, 28, 0) ((13 * v1) + 1).toNatClampNeg)), (4, .inl (σ (1, 7, 0) v1.toNatClampNeg))] [3, 4, 2, 1, 0] rfl ?_
        exact Mo_voltsGo_n273_l h hR
    · refine pw_icmp_ge 54 (px_at td_Mo_voltsGo 28 rfl) (by decide) (fun hn => absurd hn hc77) (fun _ => ?_)
      refine pw_iload_n 1 (px_at td_Mo_voltsGo 29 rfl) rfl rfl ?_
      refine pw_aload_n 3 (px_at td_Mo_voltsGo 30 rfl) rfl rfl ?_
      refine pw_getf (v := .inr (some (1, 8, 0))) (px_at td_Mo_voltsGo 31 rfl) lf_Mo_29 rfl rfl rfl ?_
      refine pw_iload_n 4 (px_at td_Mo_voltsGo 32 rfl) rfl rfl ?_
      obtain ⟨hi72, h⟩ := px_gd_e h
      refine pw_ial (px_at td_Mo_voltsGo 33 rfl) rfl hi72 rfl ?_
      refine pw_iadd (px_at td_Mo_voltsGo 34 rfl) ?_
      refine pw_goto 60 (px_at td_Mo_voltsGo 35 rfl) (by decide) ?_
      refine pw_istore (L' := [(4, .inl ((σ (1, 28, 0) ((13 * v1) + 1).toNatClampNeg) + (σ (1, 8, 0) v1.toNatClampNeg))), (3, .inl (σ (1, 28, 0) ((13 * v1) + 1).toNatClampNeg)), (2, .inl (13 * v1)), (0, .inr (some (0, 0, 0))), (1, .inl v1)]) (px_at td_Mo_voltsGo 40 rfl) (by decide) rfl ?_
      refine pw_iload 0 (px_at td_Mo_voltsGo 41 rfl) rfl ?_
      refine pw_aload_n 3 (px_at td_Mo_voltsGo 42 rfl) rfl rfl ?_
      refine pw_getf (v := .inr (some (1, 7, 0))) (px_at td_Mo_voltsGo 43 rfl) lf_Mo_26 rfl rfl rfl ?_
      refine pw_iload_n 4 (px_at td_Mo_voltsGo 44 rfl) rfl rfl ?_
      obtain ⟨hi73, h⟩ := px_gd_e h
      refine pw_ial (px_at td_Mo_voltsGo 45 rfl) rfl hi73 rfl ?_
      rcases px_ite h with ⟨hc76, h⟩ | ⟨hc76, h⟩
      · refine pw_icmp_ne 273 (px_at td_Mo_voltsGo 46 rfl) (by decide) (fun hn => absurd hc76 hn) (fun _ => ?_)
        refine pw_aload_n 3 (px_at td_Mo_voltsGo 47 rfl) rfl rfl ?_
        refine pw_iload_n 4 (px_at td_Mo_voltsGo 48 rfl) rfl rfl ?_
        refine pw_iconst (v := 3) (px_at td_Mo_voltsGo 49 rfl) (by decide) ?_
        obtain ⟨σ74, hk74, h⟩ := px_b1_e h
        refine pw_cV0 (0, 0, 0) [.inl v1, .inl 3] [] (px_at td_Mo_voltsGo 50 rfl) lV_Mo_236 rfl rfl rfl (Nat.le_of_ble_eq_true rfl) (by decide) (k_Mo_state_ hk74) ?_
        refine pw_aload_n 3 (px_at td_Mo_voltsGo 51 rfl) rfl rfl ?_
        refine pw_iload_n 4 (px_at td_Mo_voltsGo 52 rfl) rfl rfl ?_
        refine pw_iconst (v := 1) (px_at td_Mo_voltsGo 53 rfl) (by decide) ?_
        obtain ⟨σ75, hk75, h⟩ := px_b1_e h
        refine pw_cV0 (0, 0, 0) [.inl v1, .inl 1] [] (px_at td_Mo_voltsGo 54 rfl) lV_Mo_256 rfl rfl rfl (Nat.le_of_ble_eq_true rfl) (by decide) (k_Mo_logs hk75) ?_
        refine pw_goto 273 (px_at td_Mo_voltsGo 55 rfl) (by decide) ?_
        refine pw_L [(0, .inr (some (0, 0, 0))), (1, .inl v1), (2, .inl (13 * v1)), (3, .inl (σ (1, 28, 0) ((13 * v1) + 1).toNatClampNeg)), (4, .inl ((σ (1, 28, 0) ((13 * v1) + 1).toNatClampNeg) + (σ (1, 8, 0) v1.toNatClampNeg)))] [3, 4, 2, 1, 0] rfl ?_
        exact Mo_voltsGo_n273_l h hR
      · refine pw_icmp_ne 273 (px_at td_Mo_voltsGo 46 rfl) (by decide) (fun _ => ?_) (fun hn => absurd hn hc76)
        refine pw_L [(0, .inr (some (0, 0, 0))), (1, .inl v1), (2, .inl (13 * v1)), (3, .inl (σ (1, 28, 0) ((13 * v1) + 1).toNatClampNeg)), (4, .inl ((σ (1, 28, 0) ((13 * v1) + 1).toNatClampNeg) + (σ (1, 8, 0) v1.toNatClampNeg)))] [3, 4, 2, 1, 0] rfl ?_
        exact Mo_voltsGo_n273_l h hR
  · refine pw_icmp_ne 88 (px_at td_Mo_voltsGo 17 rfl) (by decide) (fun _ => ?_) (fun hn => absurd hn hc78)
    refine pw_aload_n 3 (px_at td_Mo_voltsGo 56 rfl) rfl rfl ?_
    refine pw_iload_n 4 (px_at td_Mo_voltsGo 57 rfl) rfl rfl ?_
    obtain ⟨r3, hk3, h⟩ := px_b1_e h
    refine pw_cV1 (0, 0, 0) [.inl v1] [] (px_at td_Mo_voltsGo 58 rfl) lV_Mo_230 rfl rfl rfl (Nat.le_of_ble_eq_true rfl) (by decide) (k_Mo_state hk3) ?_
    refine pw_iconst (v := 3) (px_at td_Mo_voltsGo 59 rfl) (by decide) ?_
    rcases px_ite h with ⟨hc64, h⟩ | ⟨hc64, h⟩
    · refine pw_icmp_ne 166 (px_at td_Mo_voltsGo 60 rfl) (by decide) (fun hn => absurd hc64 hn) (fun _ => ?_)
      refine pw_aload_n 3 (px_at td_Mo_voltsGo 61 rfl) rfl rfl ?_
      refine pw_getf (v := .inr (some (1, 28, 0))) (px_at td_Mo_voltsGo 62 rfl) lf_Mo_63 rfl rfl rfl ?_
      refine pw_iload_n 2 (px_at td_Mo_voltsGo 63 rfl) rfl rfl ?_
      refine pw_iconst (v := 3) (px_at td_Mo_voltsGo 64 rfl) (by decide) ?_
      refine pw_iadd (px_at td_Mo_voltsGo 65 rfl) ?_
      obtain ⟨hi53, h⟩ := px_gd_e h
      refine pw_ial (px_at td_Mo_voltsGo 66 rfl) rfl hi53 rfl ?_
      refine pw_iconst (v := 1) (px_at td_Mo_voltsGo 67 rfl) (by decide) ?_
      rcases px_ite h with ⟨hc63, h⟩ | ⟨hc63, h⟩
      · refine pw_icmp_ne 120 (px_at td_Mo_voltsGo 68 rfl) (by decide) (fun hn => absurd hc63 hn) (fun _ => ?_)
        refine pw_iload_n 1 (px_at td_Mo_voltsGo 69 rfl) rfl rfl ?_
        refine pw_aload_n 3 (px_at td_Mo_voltsGo 70 rfl) rfl rfl ?_
        refine pw_getf (v := .inr (some (1, 3, 0))) (px_at td_Mo_voltsGo 71 rfl) lf_Mo_13 rfl rfl rfl ?_
        refine pw_iconst (v := 3) (px_at td_Mo_voltsGo 72 rfl) (by decide) ?_
        refine pw_ial (px_at td_Mo_voltsGo 73 rfl) rfl (px_inL (by decide) px_z3 (by decide)) px_z3 ?_
        refine pw_isub (px_at td_Mo_voltsGo 74 rfl) ?_
        refine pw_goto 128 (px_at td_Mo_voltsGo 75 rfl) (by decide) ?_
        refine pw_istore (L' := [(4, .inl ((σ (1, 28, 0) ((13 * v1) + 1).toNatClampNeg) - (σ (1, 3, 0) 3))), (3, .inl (σ (1, 28, 0) ((13 * v1) + 1).toNatClampNeg)), (2, .inl (13 * v1)), (0, .inr (some (0, 0, 0))), (1, .inl v1)]) (px_at td_Mo_voltsGo 82 rfl) (by decide) rfl ?_
        refine pw_iload 0 (px_at td_Mo_voltsGo 83 rfl) rfl ?_
        rcases px_ite h with ⟨hc62, h⟩ | ⟨hc62, h⟩
        · refine pw_if_ge 139 (px_at td_Mo_voltsGo 84 rfl) (by decide) (fun _ => ?_) (fun hn => absurd hc62 hn)
          refine pw_iload 0 (px_at td_Mo_voltsGo 87 rfl) rfl ?_
          refine pw_aload_n 3 (px_at td_Mo_voltsGo 88 rfl) rfl rfl ?_
          refine pw_getf (v := .inr (some (1, 7, 0))) (px_at td_Mo_voltsGo 89 rfl) lf_Mo_26 rfl rfl rfl ?_
          refine pw_iload_n 4 (px_at td_Mo_voltsGo 90 rfl) rfl rfl ?_
          obtain ⟨hi59, h⟩ := px_gd_e h
          refine pw_ial (px_at td_Mo_voltsGo 91 rfl) rfl hi59 rfl ?_
          rcases px_ite h with ⟨hc61, h⟩ | ⟨hc61, h⟩
          · refine pw_icmp_le 159 (px_at td_Mo_voltsGo 92 rfl) (by decide) (fun _ => ?_) (fun hn => absurd hc61 hn)
            refine pw_iload 0 (px_at td_Mo_voltsGo 98 rfl) rfl ?_
            refine pw_istore (L' := [(4, .inl ((σ (1, 28, 0) ((13 * v1) + 1).toNatClampNeg) - (σ (1, 3, 0) 3))), (3, .inl (σ (1, 28, 0) ((13 * v1) + 1).toNatClampNeg)), (2, .inl (13 * v1)), (0, .inr (some (0, 0, 0))), (1, .inl v1)]) (px_at td_Mo_voltsGo 99 rfl) (by decide) rfl ?_
            refine pw_goto 273 (px_at td_Mo_voltsGo 100 rfl) (by decide) ?_
            refine pw_L [(0, .inr (some (0, 0, 0))), (1, .inl v1), (2, .inl (13 * v1)), (3, .inl (σ (1, 28, 0) ((13 * v1) + 1).toNatClampNeg)), (4, .inl ((σ (1, 28, 0) ((13 * v1) + 1).toNatClampNeg) - (σ (1, 3, 0) 3)))] [3, 4, 2, 1, 0] rfl ?_
            exact Mo_voltsGo_n273_l h hR
          · refine pw_icmp_le 159 (px_at td_Mo_voltsGo 92 rfl) (by decide) (fun hn => absurd hn hc61) (fun _ => ?_)
            refine pw_aload_n 3 (px_at td_Mo_voltsGo 93 rfl) rfl rfl ?_
            refine pw_getf (v := .inr (some (1, 7, 0))) (px_at td_Mo_voltsGo 94 rfl) lf_Mo_26 rfl rfl rfl ?_
            refine pw_iload_n 4 (px_at td_Mo_voltsGo 95 rfl) rfl rfl ?_
            obtain ⟨hi60, h⟩ := px_gd_e h
            refine pw_ial (px_at td_Mo_voltsGo 96 rfl) rfl hi60 rfl ?_
            refine pw_goto 161 (px_at td_Mo_voltsGo 97 rfl) (by decide) ?_
            refine pw_istore (L' := [(4, .inl (σ (1, 7, 0) v1.toNatClampNeg)), (3, .inl (σ (1, 28, 0) ((13 * v1) + 1).toNatClampNeg)), (2, .inl (13 * v1)), (0, .inr (some (0, 0, 0))), (1, .inl v1)]) (px_at td_Mo_voltsGo 99 rfl) (by decide) rfl ?_
            refine pw_goto 273 (px_at td_Mo_voltsGo 100 rfl) (by decide) ?_
            refine pw_L [(0, .inr (some (0, 0, 0))), (1, .inl v1), (2, .inl (13 * v1)), (3, .inl (σ (1, 28, 0) ((13 * v1) + 1).toNatClampNeg)), (4, .inl (σ (1, 7, 0) v1.toNatClampNeg))] [3, 4, 2, 1, 0] rfl ?_
            exact Mo_voltsGo_n273_l h hR
        · refine pw_if_ge 139 (px_at td_Mo_voltsGo 84 rfl) (by decide) (fun hn => absurd hn hc62) (fun _ => ?_)
          refine pw_iconst (v := 0) (px_at td_Mo_voltsGo 85 rfl) (by decide) ?_
          refine pw_goto 161 (px_at td_Mo_voltsGo 86 rfl) (by decide) ?_
          refine pw_istore (L' := [(4, .inl 0), (3, .inl (σ (1, 28, 0) ((13 * v1) + 1).toNatClampNeg)), (2, .inl (13 * v1)), (0, .inr (some (0, 0, 0))), (1, .inl v1)]) (px_at td_Mo_voltsGo 99 rfl) (by decide) rfl ?_
          refine pw_goto 273 (px_at td_Mo_voltsGo 100 rfl) (by decide) ?_
          refine pw_L [(0, .inr (some (0, 0, 0))), (1, .inl v1), (2, .inl (13 * v1)), (3, .inl (σ (1, 28, 0) ((13 * v1) + 1).toNatClampNeg)), (4, .inl 0)] [3, 4, 2, 1, 0] rfl ?_
          exact Mo_voltsGo_n273_l h hR
      · refine pw_icmp_ne 120 (px_at td_Mo_voltsGo 68 rfl) (by decide) (fun _ => ?_) (fun hn => absurd hn hc63)
        refine pw_iload_n 1 (px_at td_Mo_voltsGo 76 rfl) rfl rfl ?_
        refine pw_aload_n 3 (px_at td_Mo_voltsGo 77 rfl) rfl rfl ?_
        refine pw_getf (v := .inr (some (1, 8, 0))) (px_at td_Mo_voltsGo 78 rfl) lf_Mo_29 rfl rfl rfl ?_
        refine pw_iload_n 4 (px_at td_Mo_voltsGo 79 rfl) rfl rfl ?_
        obtain ⟨hi54, h⟩ := px_gd_e h
        refine pw_ial (px_at td_Mo_voltsGo 80 rfl) rfl hi54 rfl ?_
        refine pw_iadd (px_at td_Mo_voltsGo 81 rfl) ?_
        refine pw_istore (L' := [(4, .inl ((σ (1, 28, 0) ((13 * v1) + 1).toNatClampNeg) + (σ (1, 8, 0) v1.toNatClampNeg))), (3, .inl (σ (1, 28, 0) ((13 * v1) + 1).toNatClampNeg)), (2, .inl (13 * v1)), (0, .inr (some (0, 0, 0))), (1, .inl v1)]) (px_at td_Mo_voltsGo 82 rfl) (by decide) rfl ?_
        refine pw_iload 0 (px_at td_Mo_voltsGo 83 rfl) rfl ?_
        rcases px_ite h with ⟨hc58, h⟩ | ⟨hc58, h⟩
        · refine pw_if_ge 139 (px_at td_Mo_voltsGo 84 rfl) (by decide) (fun _ => ?_) (fun hn => absurd hc58 hn)
          refine pw_iload 0 (px_at td_Mo_voltsGo 87 rfl) rfl ?_
          refine pw_aload_n 3 (px_at td_Mo_voltsGo 88 rfl) rfl rfl ?_
          refine pw_getf (v := .inr (some (1, 7, 0))) (px_at td_Mo_voltsGo 89 rfl) lf_Mo_26 rfl rfl rfl ?_
          refine pw_iload_n 4 (px_at td_Mo_voltsGo 90 rfl) rfl rfl ?_
          obtain ⟨hi55, h⟩ := px_gd_e h
          refine pw_ial (px_at td_Mo_voltsGo 91 rfl) rfl hi55 rfl ?_
          rcases px_ite h with ⟨hc57, h⟩ | ⟨hc57, h⟩
          · refine pw_icmp_le 159 (px_at td_Mo_voltsGo 92 rfl) (by decide) (fun _ => ?_) (fun hn => absurd hc57 hn)
            refine pw_iload 0 (px_at td_Mo_voltsGo 98 rfl) rfl ?_
            refine pw_istore (L' := [(4, .inl ((σ (1, 28, 0) ((13 * v1) + 1).toNatClampNeg) + (σ (1, 8, 0) v1.toNatClampNeg))), (3, .inl (σ (1, 28, 0) ((13 * v1) + 1).toNatClampNeg)), (2, .inl (13 * v1)), (0, .inr (some (0, 0, 0))), (1, .inl v1)]) (px_at td_Mo_voltsGo 99 rfl) (by decide) rfl ?_
            refine pw_goto 273 (px_at td_Mo_voltsGo 100 rfl) (by decide) ?_
            refine pw_L [(0, .inr (some (0, 0, 0))), (1, .inl v1), (2, .inl (13 * v1)), (3, .inl (σ (1, 28, 0) ((13 * v1) + 1).toNatClampNeg)), (4, .inl ((σ (1, 28, 0) ((13 * v1) + 1).toNatClampNeg) + (σ (1, 8, 0) v1.toNatClampNeg)))] [3, 4, 2, 1, 0] rfl ?_
            exact Mo_voltsGo_n273_l h hR
          · refine pw_icmp_le 159 (px_at td_Mo_voltsGo 92 rfl) (by decide) (fun hn => absurd hn hc57) (fun _ => ?_)
            refine pw_aload_n 3 (px_at td_Mo_voltsGo 93 rfl) rfl rfl ?_
            refine pw_getf (v := .inr (some (1, 7, 0))) (px_at td_Mo_voltsGo 94 rfl) lf_Mo_26 rfl rfl rfl ?_
            refine pw_iload_n 4 (px_at td_Mo_voltsGo 95 rfl) rfl rfl ?_
            obtain ⟨hi56, h⟩ := px_gd_e h
            refine pw_ial (px_at td_Mo_voltsGo 96 rfl) rfl hi56 rfl ?_
            refine pw_goto 161 (px_at td_Mo_voltsGo 97 rfl) (by decide) ?_
            refine pw_istore (L' := [(4, .inl (σ (1, 7, 0) v1.toNatClampNeg)), (3, .inl (σ (1, 28, 0) ((13 * v1) + 1).toNatClampNeg)), (2, .inl (13 * v1)), (0, .inr (some (0, 0, 0))), (1, .inl v1)]) (px_at td_Mo_voltsGo 99 rfl) (by decide) rfl ?_
            refine pw_goto 273 (px_at td_Mo_voltsGo 100 rfl) (by decide) ?_
            refine pw_L [(0, .inr (some (0, 0, 0))), (1, .inl v1), (2, .inl (13 * v1)), (3, .inl (σ (1, 28, 0) ((13 * v1) + 1).toNatClampNeg)), (4, .inl (σ (1, 7, 0) v1.toNatClampNeg))] [3, 4, 2, 1, 0] rfl ?_
            exact Mo_voltsGo_n273_l h hR
        · refine pw_if_ge 139 (px_at td_Mo_voltsGo 84 rfl) (by decide) (fun hn => absurd hn hc58) (fun _ => ?_)
          refine pw_iconst (v := 0) (px_at td_Mo_voltsGo 85 rfl) (by decide) ?_
          refine pw_goto 161 (px_at td_Mo_voltsGo 86 rfl) (by decide) ?_
          refine pw_istore (L' := [(4, .inl 0), (3, .inl (σ (1, 28, 0) ((13 * v1) + 1).toNatClampNeg)), (2, .inl (13 * v1)), (0, .inr (some (0, 0, 0))), (1, .inl v1)]) (px_at td_Mo_voltsGo 99 rfl) (by decide) rfl ?_
          refine pw_goto 273 (px_at td_Mo_voltsGo 100 rfl) (by decide) ?_
          refine pw_L [(0, .inr (some (0, 0, 0))), (1, .inl v1), (2, .inl (13 * v1)), (3, .inl (σ (1, 28, 0) ((13 * v1) + 1).toNatClampNeg)), (4, .inl 0)] [3, 4, 2, 1, 0] rfl ?_
          exact Mo_voltsGo_n273_l h hR
    · refine pw_icmp_ne 166 (px_at td_Mo_voltsGo 60 rfl) (by decide) (fun _ => ?_) (fun hn => absurd hn hc64)
      refine pw_aload_n 3 (px_at td_Mo_voltsGo 101 rfl) rfl rfl ?_
      refine pw_iload_n 4 (px_at td_Mo_voltsGo 102 rfl) rfl rfl ?_
      obtain ⟨r4, hk4, h⟩ := px_b1_e h
      refine pw_cV1 (0, 0, 0) [.inl v1] [] (px_at td_Mo_voltsGo 103 rfl) lV_Mo_230 rfl rfl rfl (Nat.le_of_ble_eq_true rfl) (by decide) (k_Mo_state hk4) ?_
      refine pw_iconst (v := 4) (px_at td_Mo_voltsGo 104 rfl) (by decide) ?_
      rcases px_ite h with ⟨hc52, h⟩ | ⟨hc52, h⟩
      · refine pw_icmp_ne 273 (px_at td_Mo_voltsGo 105 rfl) (by decide) (fun hn => absurd hc52 hn) (fun _ => ?_)
        refine pw_iload_n 1 (px_at td_Mo_voltsGo 106 rfl) rfl rfl ?_
        refine pw_aload_n 3 (px_at td_Mo_voltsGo 107 rfl) rfl rfl ?_
        refine pw_getf (v := .inr (some (1, 3, 0))) (px_at td_Mo_voltsGo 108 rfl) lf_Mo_13 rfl rfl rfl ?_
        refine pw_iconst (v := 4) (px_at td_Mo_voltsGo 109 rfl) (by decide) ?_
        refine pw_ial (px_at td_Mo_voltsGo 110 rfl) rfl (px_inL (by decide) px_z4 (by decide)) px_z4 ?_
        rcases px_ite h with ⟨hc51, h⟩ | ⟨hc51, h⟩
        · refine pw_icmp_le 196 (px_at td_Mo_voltsGo 111 rfl) (by decide) (fun _ => ?_) (fun hn => absurd hc51 hn)
          refine pw_iconst (v := 0) (px_at td_Mo_voltsGo 119 rfl) (by decide) ?_
          refine pw_istore (L' := [(4, .inl 0), (3, .inl (σ (1, 28, 0) ((13 * v1) + 1).toNatClampNeg)), (2, .inl (13 * v1)), (0, .inr (some (0, 0, 0))), (1, .inl v1)]) (px_at td_Mo_voltsGo 120 rfl) (by decide) rfl ?_
          refine pw_iload 0 (px_at td_Mo_voltsGo 121 rfl) rfl ?_
          refine pw_if_ne 273 (px_at td_Mo_voltsGo 122 rfl) (by decide) (fun hn => absurd hn (by decide)) (fun hn => ?_)
          refine pw_aload_n 3 (px_at td_Mo_voltsGo 123 rfl) rfl rfl ?_
          refine pw_iload_n 4 (px_at td_Mo_voltsGo 124 rfl) rfl rfl ?_
          refine pw_iconst (v := 0) (px_at td_Mo_voltsGo 125 rfl) (by decide) ?_
          obtain ⟨σ34, hk34, h⟩ := px_b1_e h
          refine pw_cV0 (0, 0, 0) [.inl v1, .inl 0] [] (px_at td_Mo_voltsGo 126 rfl) lV_Mo_236 rfl rfl rfl (Nat.le_of_ble_eq_true rfl) (by decide) (k_Mo_state_ hk34) ?_
          refine pw_aload_n 3 (px_at td_Mo_voltsGo 127 rfl) rfl rfl ?_
          refine pw_iload_n 4 (px_at td_Mo_voltsGo 128 rfl) rfl rfl ?_
          refine pw_iconst (v := 4) (px_at td_Mo_voltsGo 129 rfl) (by decide) ?_
          obtain ⟨σ35, hk35, h⟩ := px_b1_e h
          refine pw_cV0 (0, 0, 0) [.inl v1, .inl 4] [] (px_at td_Mo_voltsGo 130 rfl) lV_Mo_256 rfl rfl rfl (Nat.le_of_ble_eq_true rfl) (by decide) (k_Mo_logs hk35) ?_
          refine pw_aload_n 3 (px_at td_Mo_voltsGo 131 rfl) rfl rfl ?_
          refine pw_getf (v := .inr (some (1, 28, 0))) (px_at td_Mo_voltsGo 132 rfl) lf_Mo_63 rfl rfl rfl ?_
          refine pw_iload_n 2 (px_at td_Mo_voltsGo 133 rfl) rfl rfl ?_
          refine pw_bipush (v := 12) (px_at td_Mo_voltsGo 134 rfl) (by decide) ?_
          refine pw_iadd (px_at td_Mo_voltsGo 135 rfl) ?_
          obtain ⟨hi36, h⟩ := px_gd_e h
          refine pw_ial (px_at td_Mo_voltsGo 136 rfl) rfl hi36 rfl ?_
          refine pw_iconst (v := 1) (px_at td_Mo_voltsGo 137 rfl) (by decide) ?_
          rcases px_ite h with ⟨hc41, h⟩ | ⟨hc41, h⟩
          · refine pw_icmp_ne 273 (px_at td_Mo_voltsGo 138 rfl) (by decide) (fun hn => absurd hc41 hn) (fun _ => ?_)
            refine pw_aload_n 3 (px_at td_Mo_voltsGo 139 rfl) rfl rfl ?_
            refine pw_getf (v := .inr (some (1, 28, 0))) (px_at td_Mo_voltsGo 140 rfl) lf_Mo_63 rfl rfl rfl ?_
            refine pw_iload_n 2 (px_at td_Mo_voltsGo 141 rfl) rfl rfl ?_
            refine pw_bipush (v := 11) (px_at td_Mo_voltsGo 142 rfl) (by decide) ?_
            refine pw_iadd (px_at td_Mo_voltsGo 143 rfl) ?_
            obtain ⟨hi37, h⟩ := px_gd_e h
            refine pw_ial (px_at td_Mo_voltsGo 144 rfl) rfl hi37 rfl ?_
            refine pw_aload_n 3 (px_at td_Mo_voltsGo 145 rfl) rfl rfl ?_
            refine pw_getf (v := .inr (some (1, 3, 0))) (px_at td_Mo_voltsGo 146 rfl) lf_Mo_13 rfl rfl rfl ?_
            refine pw_bipush (v := 9) (px_at td_Mo_voltsGo 147 rfl) (by decide) ?_
            refine pw_ial (px_at td_Mo_voltsGo 148 rfl) rfl (px_inL (by decide) px_z9 (by decide)) px_z9 ?_
            rcases px_ite h with ⟨hc40, h⟩ | ⟨hc40, h⟩
            · refine pw_icmp_ge 273 (px_at td_Mo_voltsGo 149 rfl) (by decide) (fun _ => ?_) (fun hn => absurd hc40 hn)
              refine pw_L [(0, .inr (some (0, 0, 0))), (1, .inl v1), (2, .inl (13 * v1)), (3, .inl (σ (1, 28, 0) ((13 * v1) + 1).toNatClampNeg)), (4, .inl 0)] [3, 4, 2, 1, 0] rfl ?_
              exact Mo_voltsGo_n273_l h hR
            · refine pw_icmp_ge 273 (px_at td_Mo_voltsGo 149 rfl) (by decide) (fun hn => absurd hn hc40) (fun _ => ?_)
              refine pw_aload_n 3 (px_at td_Mo_voltsGo 150 rfl) rfl rfl ?_
              refine pw_getf (v := .inr (some (1, 28, 0))) (px_at td_Mo_voltsGo 151 rfl) lf_Mo_63 rfl rfl rfl ?_
              refine pw_iload_n 2 (px_at td_Mo_voltsGo 152 rfl) rfl rfl ?_
              refine pw_bipush (v := 10) (px_at td_Mo_voltsGo 153 rfl) (by decide) ?_
              refine pw_iadd (px_at td_Mo_voltsGo 154 rfl) ?_
              refine pw_aload_n 3 (px_at td_Mo_voltsGo 155 rfl) rfl rfl ?_
              refine pw_getf (v := .inr (some (1, 28, 0))) (px_at td_Mo_voltsGo 156 rfl) lf_Mo_63 rfl rfl rfl ?_
              refine pw_sipush (v := 182) (px_at td_Mo_voltsGo 157 rfl) (by decide) ?_
              refine pw_ial (px_at td_Mo_voltsGo 158 rfl) rfl (px_inL (by decide) px_z182 (by decide)) px_z182 ?_
              refine pw_aload_n 3 (px_at td_Mo_voltsGo 159 rfl) rfl rfl ?_
              refine pw_getf (v := .inr (some (1, 3, 0))) (px_at td_Mo_voltsGo 160 rfl) lf_Mo_13 rfl rfl rfl ?_
              refine pw_bipush (v := 10) (px_at td_Mo_voltsGo 161 rfl) (by decide) ?_
              refine pw_ial (px_at td_Mo_voltsGo 162 rfl) rfl (px_inL (by decide) px_z10 (by decide)) px_z10 ?_
              refine pw_iadd (px_at td_Mo_voltsGo 163 rfl) ?_
              obtain ⟨hi38, h⟩ := px_gd_e h
              obtain ⟨σ39, hσ39, h⟩ := px_l_e h
              refine pw_ias (px_at td_Mo_voltsGo 164 rfl) rfl hi38 rfl hσ39 ?_
              refine pw_L [(0, .inr (some (0, 0, 0))), (1, .inl v1), (2, .inl (13 * v1)), (3, .inl (σ (1, 28, 0) ((13 * v1) + 1).toNatClampNeg)), (4, .inl 0)] [3, 4, 2, 1, 0] rfl ?_
              exact Mo_voltsGo_n273_l h hR
          · refine pw_icmp_ne 273 (px_at td_Mo_voltsGo 138 rfl) (by decide) (fun _ => ?_) (fun hn => absurd hn hc41)
            refine pw_L [(0, .inr (some (0, 0, 0))), (1, .inl v1), (2, .inl (13 * v1)), (3, .inl (σ (1, 28, 0) ((13 * v1) + 1).toNatClampNeg)), (4, .inl 0)] [3, 4, 2, 1, 0] rfl ?_
            exact Mo_voltsGo_n273_l h hR
        · refine pw_icmp_le 196 (px_at td_Mo_voltsGo 111 rfl) (by decide) (fun hn => absurd hn hc51) (fun _ => ?_)
          refine pw_iload_n 1 (px_at td_Mo_voltsGo 112 rfl) rfl rfl ?_
          refine pw_aload_n 3 (px_at td_Mo_voltsGo 113 rfl) rfl rfl ?_
          refine pw_getf (v := .inr (some (1, 3, 0))) (px_at td_Mo_voltsGo 114 rfl) lf_Mo_13 rfl rfl rfl ?_
          refine pw_iconst (v := 4) (px_at td_Mo_voltsGo 115 rfl) (by decide) ?_
          refine pw_ial (px_at td_Mo_voltsGo 116 rfl) rfl (px_inL (by decide) px_z4 (by decide)) px_z4 ?_
          refine pw_isub (px_at td_Mo_voltsGo 117 rfl) ?_
          refine pw_goto 197 (px_at td_Mo_voltsGo 118 rfl) (by decide) ?_
          refine pw_istore (L' := [(4, .inl ((σ (1, 28, 0) ((13 * v1) + 1).toNatClampNeg) - (σ (1, 3, 0) 4))), (3, .inl (σ (1, 28, 0) ((13 * v1) + 1).toNatClampNeg)), (2, .inl (13 * v1)), (0, .inr (some (0, 0, 0))), (1, .inl v1)]) (px_at td_Mo_voltsGo 120 rfl) (by decide) rfl ?_
          refine pw_iload 0 (px_at td_Mo_voltsGo 121 rfl) rfl ?_
          rcases px_ite h with ⟨hc50, h⟩ | ⟨hc50, h⟩
          · refine pw_if_ne 273 (px_at td_Mo_voltsGo 122 rfl) (by decide) (fun hn => absurd hc50 hn) (fun _ => ?_)
            refine pw_aload_n 3 (px_at td_Mo_voltsGo 123 rfl) rfl rfl ?_
            refine pw_iload_n 4 (px_at td_Mo_voltsGo 124 rfl) rfl rfl ?_
            refine pw_iconst (v := 0) (px_at td_Mo_voltsGo 125 rfl) (by decide) ?_
            obtain ⟨σ42, hk42, h⟩ := px_b1_e h
            refine pw_cV0 (0, 0, 0) [.inl v1, .inl 0] [] (px_at td_Mo_voltsGo 126 rfl) lV_Mo_236 rfl rfl rfl (Nat.le_of_ble_eq_true rfl) (by decide) (k_Mo_state_ hk42) ?_
            refine pw_aload_n 3 (px_at td_Mo_voltsGo 127 rfl) rfl rfl ?_
            refine pw_iload_n 4 (px_at td_Mo_voltsGo 128 rfl) rfl rfl ?_
            refine pw_iconst (v := 4) (px_at td_Mo_voltsGo 129 rfl) (by decide) ?_
            obtain ⟨σ43, hk43, h⟩ := px_b1_e h
            refine pw_cV0 (0, 0, 0) [.inl v1, .inl 4] [] (px_at td_Mo_voltsGo 130 rfl) lV_Mo_256 rfl rfl rfl (Nat.le_of_ble_eq_true rfl) (by decide) (k_Mo_logs hk43) ?_
            refine pw_aload_n 3 (px_at td_Mo_voltsGo 131 rfl) rfl rfl ?_
            refine pw_getf (v := .inr (some (1, 28, 0))) (px_at td_Mo_voltsGo 132 rfl) lf_Mo_63 rfl rfl rfl ?_
            refine pw_iload_n 2 (px_at td_Mo_voltsGo 133 rfl) rfl rfl ?_
            refine pw_bipush (v := 12) (px_at td_Mo_voltsGo 134 rfl) (by decide) ?_
            refine pw_iadd (px_at td_Mo_voltsGo 135 rfl) ?_
            obtain ⟨hi44, h⟩ := px_gd_e h
            refine pw_ial (px_at td_Mo_voltsGo 136 rfl) rfl hi44 rfl ?_
            refine pw_iconst (v := 1) (px_at td_Mo_voltsGo 137 rfl) (by decide) ?_
            rcases px_ite h with ⟨hc49, h⟩ | ⟨hc49, h⟩
            · refine pw_icmp_ne 273 (px_at td_Mo_voltsGo 138 rfl) (by decide) (fun hn => absurd hc49 hn) (fun _ => ?_)
              refine pw_aload_n 3 (px_at td_Mo_voltsGo 139 rfl) rfl rfl ?_
              refine pw_getf (v := .inr (some (1, 28, 0))) (px_at td_Mo_voltsGo 140 rfl) lf_Mo_63 rfl rfl rfl ?_
              refine pw_iload_n 2 (px_at td_Mo_voltsGo 141 rfl) rfl rfl ?_
              refine pw_bipush (v := 11) (px_at td_Mo_voltsGo 142 rfl) (by decide) ?_
              refine pw_iadd (px_at td_Mo_voltsGo 143 rfl) ?_
              obtain ⟨hi45, h⟩ := px_gd_e h
              refine pw_ial (px_at td_Mo_voltsGo 144 rfl) rfl hi45 rfl ?_
              refine pw_aload_n 3 (px_at td_Mo_voltsGo 145 rfl) rfl rfl ?_
              refine pw_getf (v := .inr (some (1, 3, 0))) (px_at td_Mo_voltsGo 146 rfl) lf_Mo_13 rfl rfl rfl ?_
              refine pw_bipush (v := 9) (px_at td_Mo_voltsGo 147 rfl) (by decide) ?_
              refine pw_ial (px_at td_Mo_voltsGo 148 rfl) rfl (px_inL (by decide) px_z9 (by decide)) px_z9 ?_
              rcases px_ite h with ⟨hc48, h⟩ | ⟨hc48, h⟩
              · refine pw_icmp_ge 273 (px_at td_Mo_voltsGo 149 rfl) (by decide) (fun _ => ?_) (fun hn => absurd hc48 hn)
                refine pw_L [(0, .inr (some (0, 0, 0))), (1, .inl v1), (2, .inl (13 * v1)), (3, .inl (σ (1, 28, 0) ((13 * v1) + 1).toNatClampNeg)), (4, .inl ((σ (1, 28, 0) ((13 * v1) + 1).toNatClampNeg) - (σ (1, 3, 0) 4)))] [3, 4, 2, 1, 0] rfl ?_
                exact Mo_voltsGo_n273_l h hR
              · refine pw_icmp_ge 273 (px_at td_Mo_voltsGo 149 rfl) (by decide) (fun hn => absurd hn hc48) (fun _ => ?_)
                refine pw_aload_n 3 (px_at td_Mo_voltsGo 150 rfl) rfl rfl ?_
                refine pw_getf (v := .inr (some (1, 28, 0))) (px_at td_Mo_voltsGo 151 rfl) lf_Mo_63 rfl rfl rfl ?_
                refine pw_iload_n 2 (px_at td_Mo_voltsGo 152 rfl) rfl rfl ?_
                refine pw_bipush (v := 10) (px_at td_Mo_voltsGo 153 rfl) (by decide) ?_
                refine pw_iadd (px_at td_Mo_voltsGo 154 rfl) ?_
                refine pw_aload_n 3 (px_at td_Mo_voltsGo 155 rfl) rfl rfl ?_
                refine pw_getf (v := .inr (some (1, 28, 0))) (px_at td_Mo_voltsGo 156 rfl) lf_Mo_63 rfl rfl rfl ?_
                refine pw_sipush (v := 182) (px_at td_Mo_voltsGo 157 rfl) (by decide) ?_
                refine pw_ial (px_at td_Mo_voltsGo 158 rfl) rfl (px_inL (by decide) px_z182 (by decide)) px_z182 ?_
                refine pw_aload_n 3 (px_at td_Mo_voltsGo 159 rfl) rfl rfl ?_
                refine pw_getf (v := .inr (some (1, 3, 0))) (px_at td_Mo_voltsGo 160 rfl) lf_Mo_13 rfl rfl rfl ?_
                refine pw_bipush (v := 10) (px_at td_Mo_voltsGo 161 rfl) (by decide) ?_
                refine pw_ial (px_at td_Mo_voltsGo 162 rfl) rfl (px_inL (by decide) px_z10 (by decide)) px_z10 ?_
                refine pw_iadd (px_at td_Mo_voltsGo 163 rfl) ?_
                obtain ⟨hi46, h⟩ := px_gd_e h
                obtain ⟨σ47, hσ47, h⟩ := px_l_e h
                refine pw_ias (px_at td_Mo_voltsGo 164 rfl) rfl hi46 rfl hσ47 ?_
                refine pw_L [(0, .inr (some (0, 0, 0))), (1, .inl v1), (2, .inl (13 * v1)), (3, .inl (σ (1, 28, 0) ((13 * v1) + 1).toNatClampNeg)), (4, .inl ((σ (1, 28, 0) ((13 * v1) + 1).toNatClampNeg) - (σ (1, 3, 0) 4)))] [3, 4, 2, 1, 0] rfl ?_
                exact Mo_voltsGo_n273_l h hR
            · refine pw_icmp_ne 273 (px_at td_Mo_voltsGo 138 rfl) (by decide) (fun _ => ?_) (fun hn => absurd hn hc49)
              refine pw_L [(0, .inr (some (0, 0, 0))), (1, .inl v1), (2, .inl (13 * v1)), (3, .inl (σ (1, 28, 0) ((13 * v1) + 1).toNatClampNeg)), (4, .inl ((σ (1, 28, 0) ((13 * v1) + 1).toNatClampNeg) - (σ (1, 3, 0) 4)))] [3, 4, 2, 1, 0] rfl ?_
              exact Mo_voltsGo_n273_l h hR
          · refine pw_if_ne 273 (px_at td_Mo_voltsGo 122 rfl) (by decide) (fun _ => ?_) (fun hn => absurd hn hc50)
            refine pw_L [(0, .inr (some (0, 0, 0))), (1, .inl v1), (2, .inl (13 * v1)), (3, .inl (σ (1, 28, 0) ((13 * v1) + 1).toNatClampNeg)), (4, .inl ((σ (1, 28, 0) ((13 * v1) + 1).toNatClampNeg) - (σ (1, 3, 0) 4)))] [3, 4, 2, 1, 0] rfl ?_
            exact Mo_voltsGo_n273_l h hR
      · refine pw_icmp_ne 273 (px_at td_Mo_voltsGo 105 rfl) (by decide) (fun _ => ?_) (fun hn => absurd hn hc52)
        refine pw_L [(0, .inr (some (0, 0, 0))), (1, .inl v1), (2, .inl (13 * v1)), (3, .inl (σ (1, 28, 0) ((13 * v1) + 1).toNatClampNeg)), (4, .inl (σ (1, 28, 0) ((13 * v1) + 1).toNatClampNeg))] [3, 4, 2, 1, 0] rfl ?_
        exact Mo_voltsGo_n273_l h hR
theorem k_Mo_voltsGo {l : Launch} {ids : List pxI} {σ : pxS} {v1 : Int32} {res : pxS} (h : F_Mo_voltsGo σ v1 = some res) : pm l y_Mo_voltsGo c_Mo_voltsGo 5 none (px_R 3) [.inr (some (0, 0, 0)), .inl v1] ids mG σ (px_r none ids mG res) :=
  pm_ofF (by decide +kernel) (Nat.le_of_ble_eq_true rfl) (e_Mo_voltsGo h ⟨rfl, rfl, rfl, rfl⟩)
/-! Mo_draws -/
def Mo_draws_n97 (σ : pxS) (v1 : Int32) (v2 : Int32) (v3 : Int32) (v4 : Int32) : Option ((Int32 × Int32) ⊕ (Int32)) :=
  px_b1 (F_Mo_rails σ ) fun r10 =>
  (if r10 ≤ v4 then some (.inr v3) else px_gd v4 24 ((if (σ (1, 6, 0) v4.toNatClampNeg) = v1 then px_gd ((13 * v4) + 2) 308 (some (.inl ((v3 + (σ (1, 28, 0) ((13 * v4) + 2).toNatClampNeg)), (v4 + 1)))) else some (.inl ((v3 + 0), (v4 + 1))))))
set_option maxRecDepth 100000 in
theorem Mo_draws_n97_l {l : Launch} {ids : List pxI} {Rt : Option pxV → List pxI → pxG → pxS → Prop} {σ : pxS} {v1 : Int32} {v2 : Int32} {v3 : Int32} {v4 : Int32} {o : (Int32 × Int32) ⊕ (Int32)} (h : Mo_draws_n97 σ v1 v2 v3 v4 = some o) (hC : ∀ s, o = .inl s → pw l (px_R 2) y_Mo_draws c_Mo_draws 5 none 97 [(0, .inr (some (0, 0, 0))), (1, .inl v1), (2, .inl v2), (3, .inl s.1), (4, .inl s.2)] [] ids mG σ 0 0 Rt) (hX0 : ∀ e, o = .inr e → pw l (px_R 2) y_Mo_draws c_Mo_draws 5 none 142 [(0, .inr (some (0, 0, 0))), (1, .inl v1), (2, .inl v2), (3, .inl e)] [] ids mG σ 0 0 Rt) : pw l (px_R 2) y_Mo_draws c_Mo_draws 5 none 97 [(0, .inr (some (0, 0, 0))), (1, .inl v1), (2, .inl v2), (3, .inl v3), (4, .inl v4)] [] ids mG σ 0 0 Rt := by
  unfold Mo_draws_n97 at h
  refine pw_iload 4 (px_at td_Mo_draws 65 rfl) rfl ?_
  refine pw_aload_n 0 (px_at td_Mo_draws 66 rfl) rfl rfl ?_
  obtain ⟨r10, hk10, h⟩ := px_b1_e h
  refine pw_cV1 (0, 0, 0) [] [.inl v4] (px_at td_Mo_draws 67 rfl) lV_Mo_223 rfl rfl rfl (Nat.le_of_ble_eq_true rfl) (by decide) (k_Mo_rails hk10) ?_
  rcases px_ite h with ⟨hc14, h⟩ | ⟨hc14, h⟩
  · refine pw_icmp_ge 142 (px_at td_Mo_draws 68 rfl) (by decide) (fun _ => ?_) (fun hn => absurd hc14 hn)
    refine pw_L [(0, .inr (some (0, 0, 0))), (1, .inl v1), (2, .inl v2), (3, .inl v3)] [0, 1, 2, 3] rfl ?_
    exact hX0 v3 (Option.some.inj h).symm
  · refine pw_icmp_ge 142 (px_at td_Mo_draws 68 rfl) (by decide) (fun hn => absurd hn hc14) (fun _ => ?_)
    refine pw_iload_n 3 (px_at td_Mo_draws 69 rfl) rfl rfl ?_
    refine pw_aload_n 0 (px_at td_Mo_draws 70 rfl) rfl rfl ?_
    refine pw_getf (v := .inr (some (1, 6, 0))) (px_at td_Mo_draws 71 rfl) lf_Mo_23 rfl rfl rfl ?_
    refine pw_iload 4 (px_at td_Mo_draws 72 rfl) rfl ?_
    obtain ⟨hi11, h⟩ := px_gd_e h
    refine pw_ial (px_at td_Mo_draws 73 rfl) rfl hi11 rfl ?_
    refine pw_iload_n 1 (px_at td_Mo_draws 74 rfl) rfl rfl ?_
    rcases px_ite h with ⟨hc13, h⟩ | ⟨hc13, h⟩
    · refine pw_icmp_ne 133 (px_at td_Mo_draws 75 rfl) (by decide) (fun hn => absurd hc13 hn) (fun _ => ?_)
      refine pw_aload_n 0 (px_at td_Mo_draws 76 rfl) rfl rfl ?_
      refine pw_getf (v := .inr (some (1, 28, 0))) (px_at td_Mo_draws 77 rfl) lf_Mo_63 rfl rfl rfl ?_
      refine pw_bipush (v := 13) (px_at td_Mo_draws 78 rfl) (by decide) ?_
      refine pw_iload 4 (px_at td_Mo_draws 79 rfl) rfl ?_
      refine pw_imul (px_at td_Mo_draws 80 rfl) ?_
      refine pw_iconst (v := 2) (px_at td_Mo_draws 81 rfl) (by decide) ?_
      refine pw_iadd (px_at td_Mo_draws 82 rfl) ?_
      obtain ⟨hi12, h⟩ := px_gd_e h
      refine pw_ial (px_at td_Mo_draws 83 rfl) rfl hi12 rfl ?_
      refine pw_goto 134 (px_at td_Mo_draws 84 rfl) (by decide) ?_
      refine pw_iadd (px_at td_Mo_draws 86 rfl) ?_
      refine pw_istore_n (L' := [(3, .inl (v3 + (σ (1, 28, 0) ((13 * v4) + 2).toNatClampNeg))), (0, .inr (some (0, 0, 0))), (1, .inl v1), (2, .inl v2), (4, .inl v4)]) (px_at td_Mo_draws 87 rfl) rfl (by decide) rfl ?_
      refine pw_iinc (q := 4) (v := (v4 + 1)) (L' := [(4, .inl (v4 + 1)), (3, .inl (v3 + (σ (1, 28, 0) ((13 * v4) + 2).toNatClampNeg))), (0, .inr (some (0, 0, 0))), (1, .inl v1), (2, .inl v2)]) (px_at td_Mo_draws 88 rfl) rfl rfl (by decide) rfl ?_
      refine pw_goto 97 (px_at td_Mo_draws 89 rfl) (by decide) ?_
      refine pw_L [(0, .inr (some (0, 0, 0))), (1, .inl v1), (2, .inl v2), (3, .inl (v3 + (σ (1, 28, 0) ((13 * v4) + 2).toNatClampNeg))), (4, .inl (v4 + 1))] [2, 3, 4, 1, 0] rfl ?_
      exact hC ((v3 + (σ (1, 28, 0) ((13 * v4) + 2).toNatClampNeg)), (v4 + 1)) (Option.some.inj h).symm
    · refine pw_icmp_ne 133 (px_at td_Mo_draws 75 rfl) (by decide) (fun _ => ?_) (fun hn => absurd hn hc13)
      refine pw_iconst (v := 0) (px_at td_Mo_draws 85 rfl) (by decide) ?_
      refine pw_iadd (px_at td_Mo_draws 86 rfl) ?_
      refine pw_istore_n (L' := [(3, .inl (v3 + 0)), (0, .inr (some (0, 0, 0))), (1, .inl v1), (2, .inl v2), (4, .inl v4)]) (px_at td_Mo_draws 87 rfl) rfl (by decide) rfl ?_
      refine pw_iinc (q := 4) (v := (v4 + 1)) (L' := [(4, .inl (v4 + 1)), (3, .inl (v3 + 0)), (0, .inr (some (0, 0, 0))), (1, .inl v1), (2, .inl v2)]) (px_at td_Mo_draws 88 rfl) rfl rfl (by decide) rfl ?_
      refine pw_goto 97 (px_at td_Mo_draws 89 rfl) (by decide) ?_
      refine pw_L [(0, .inr (some (0, 0, 0))), (1, .inl v1), (2, .inl v2), (3, .inl (v3 + 0)), (4, .inl (v4 + 1))] [2, 3, 4, 1, 0] rfl ?_
      exact hC ((v3 + 0), (v4 + 1)) (Option.some.inj h).symm
def Mo_draws_L97 (σ : pxS) (v1 : Int32) (v2 : Int32) : (Int32 × Int32) → Option ((Int32 × Int32) ⊕ (Int32)) := fun s => Mo_draws_n97 σ v1 v2 s.1 s.2
set_option maxRecDepth 100000 in
theorem Mo_draws_L97_l {l : Launch} {ids : List pxI} {Rt : Option pxV → List pxI → pxG → pxS → Prop} {σ : pxS} {v1 : Int32} {v2 : Int32} {n : Nat} {s : Int32 × Int32} {e : Int32} (h : px_it (Mo_draws_L97 σ v1 v2) n s = some e) (hX0 : pw l (px_R 2) y_Mo_draws c_Mo_draws 5 none 142 [(0, .inr (some (0, 0, 0))), (1, .inl v1), (2, .inl v2), (3, .inl e)] [] ids mG σ 0 0 Rt) : pw l (px_R 2) y_Mo_draws c_Mo_draws 5 none 97 [(0, .inr (some (0, 0, 0))), (1, .inl v1), (2, .inl v2), (3, .inl s.1), (4, .inl s.2)] [] ids mG σ 0 0 Rt := by
  refine px_it_rule (f := Mo_draws_L97 σ v1 v2) (C := fun s => pw l (px_R 2) y_Mo_draws c_Mo_draws 5 none 97 [(0, .inr (some (0, 0, 0))), (1, .inl v1), (2, .inl v2), (3, .inl s.1), (4, .inl s.2)] [] ids mG σ 0 0 Rt) (X := fun e => (pw l (px_R 2) y_Mo_draws c_Mo_draws 5 none 142 [(0, .inr (some (0, 0, 0))), (1, .inl v1), (2, .inl v2), (3, .inl e)] [] ids mG σ 0 0 Rt)) ?_ ?_ n s e h hX0
  · intro s s1 hf hC
    exact Mo_draws_n97_l hf (fun s2 hs => by cases hs; exact hC) (fun e he => by cases he)
  · intro s e hf hX
    exact Mo_draws_n97_l hf (fun s2 hs => by cases hs) (fun e1 he => by cases he; exact hX)
def Mo_draws_n43 (σ : pxS) (v1 : Int32) (v2 : Int32) : Option ((Int32 × pxS) ⊕ (pxS)) :=
  px_gd (v2 + 6) 308 (px_gd (v2 + 1) 308 (px_gd v1 24 (px_gz (σ (1, 7, 0) v1.toNatClampNeg) (px_gd v1 24 (px_gd v1 12 (px_b1 (px_it (Mo_draws_L97 σ v1 v2) px_N (((((σ (1, 28, 0) (v2 + 6).toNatClampNeg) * (σ (1, 28, 0) (v2 + 1).toNatClampNeg)) / (σ (1, 7, 0) v1.toNatClampNeg)) + (((σ (1, 9, 0) v1.toNatClampNeg) * (σ (1, 34, 0) v1.toNatClampNeg)) / 16)), (v1 + 1))) fun e15 =>
  px_gd (v2 + 2) 308 (px_l (px_up σ (1, 28, 0) (v2 + 2).toNatClampNeg e15) fun σ17 =>
  px_gd (v2 + 7) 308 ((if e15 ≤ (σ17 (1, 28, 0) (v2 + 7).toNatClampNeg) then px_gd (v2 + 3) 308 (px_l (px_up σ17 (1, 28, 0) (v2 + 3).toNatClampNeg 0) fun σ20 =>
  px_gd v1 24 ((if (σ20 (1, 6, 0) v1.toNatClampNeg) = (-2) then px_l (px_up σ20 (1, 28, 0) 186 ((σ20 (1, 28, 0) 186) + e15)) fun σ23 =>
  some (.inl ((v1 + (-1)), σ23)) else px_l (px_up σ20 (1, 28, 0) 186 ((σ20 (1, 28, 0) 186) + 0)) fun σ22 =>
  some (.inl ((v1 + (-1)), σ22))))) else px_gd (v2 + 3) 308 (px_l (px_up σ17 (1, 28, 0) (v2 + 3).toNatClampNeg 1) fun σ26 =>
  px_gd v1 24 ((if (σ26 (1, 6, 0) v1.toNatClampNeg) = (-2) then px_l (px_up σ26 (1, 28, 0) 186 ((σ26 (1, 28, 0) 186) + e15)) fun σ29 =>
  some (.inl ((v1 + (-1)), σ29)) else px_l (px_up σ26 (1, 28, 0) 186 ((σ26 (1, 28, 0) 186) + 0)) fun σ28 =>
  some (.inl ((v1 + (-1)), σ28))))))))))))))
set_option maxRecDepth 100000 in
theorem Mo_draws_n43_l {l : Launch} {ids : List pxI} {Rt : Option pxV → List pxI → pxG → pxS → Prop} {σ : pxS} {v1 : Int32} {v2 : Int32} {o : (Int32 × pxS) ⊕ (pxS)} (h : Mo_draws_n43 σ v1 v2 = some o) (hC : ∀ s, o = .inl s → pw l (px_R 2) y_Mo_draws c_Mo_draws 5 none 16 [(0, .inr (some (0, 0, 0))), (1, .inl s.1)] [] ids mG s.2 0 0 Rt) (hX0 : ∀ e, o = .inr e → pw l (px_R 2) y_Mo_draws c_Mo_draws 5 none 210 [] [] ids mG e 0 0 Rt) : pw l (px_R 2) y_Mo_draws c_Mo_draws 5 none 43 [(0, .inr (some (0, 0, 0))), (1, .inl v1), (2, .inl v2)] [] ids mG σ 0 0 Rt := by
  unfold Mo_draws_n43 at h
  refine pw_aload_n 0 (px_at td_Mo_draws 26 rfl) rfl rfl ?_
  refine pw_getf (v := .inr (some (1, 28, 0))) (px_at td_Mo_draws 27 rfl) lf_Mo_63 rfl rfl rfl ?_
  refine pw_iload_n 2 (px_at td_Mo_draws 28 rfl) rfl rfl ?_
  refine pw_bipush (v := 6) (px_at td_Mo_draws 29 rfl) (by decide) ?_
  refine pw_iadd (px_at td_Mo_draws 30 rfl) ?_
  obtain ⟨hi4, h⟩ := px_gd_e h
  refine pw_ial (px_at td_Mo_draws 31 rfl) rfl hi4 rfl ?_
  refine pw_aload_n 0 (px_at td_Mo_draws 32 rfl) rfl rfl ?_
  refine pw_getf (v := .inr (some (1, 28, 0))) (px_at td_Mo_draws 33 rfl) lf_Mo_63 rfl rfl rfl ?_
  refine pw_iload_n 2 (px_at td_Mo_draws 34 rfl) rfl rfl ?_
  refine pw_iconst (v := 1) (px_at td_Mo_draws 35 rfl) (by decide) ?_
  refine pw_iadd (px_at td_Mo_draws 36 rfl) ?_
  obtain ⟨hi5, h⟩ := px_gd_e h
  refine pw_ial (px_at td_Mo_draws 37 rfl) rfl hi5 rfl ?_
  refine pw_imul (px_at td_Mo_draws 38 rfl) ?_
  refine pw_aload_n 0 (px_at td_Mo_draws 39 rfl) rfl rfl ?_
  refine pw_getf (v := .inr (some (1, 7, 0))) (px_at td_Mo_draws 40 rfl) lf_Mo_26 rfl rfl rfl ?_
  refine pw_iload_n 1 (px_at td_Mo_draws 41 rfl) rfl rfl ?_
  obtain ⟨hi6, h⟩ := px_gd_e h
  refine pw_ial (px_at td_Mo_draws 42 rfl) rfl hi6 rfl ?_
  obtain ⟨hz7, h⟩ := px_gz_e h
  refine pw_idiv (px_at td_Mo_draws 43 rfl) hz7 ?_
  refine pw_goto 72 (px_at td_Mo_draws 44 rfl) (by decide) ?_
  refine pw_istore_n (L' := [(3, .inl (((σ (1, 28, 0) (v2 + 6).toNatClampNeg) * (σ (1, 28, 0) (v2 + 1).toNatClampNeg)) / (σ (1, 7, 0) v1.toNatClampNeg))), (0, .inr (some (0, 0, 0))), (1, .inl v1), (2, .inl v2)]) (px_at td_Mo_draws 46 rfl) rfl (by decide) rfl ?_
  refine pw_iload_n 0 (px_at td_Mo_draws 47 rfl) rfl rfl ?_
  refine pw_aload_n 1 (px_at td_Mo_draws 48 rfl) rfl rfl ?_
  refine pw_getf (v := .inr (some (1, 9, 0))) (px_at td_Mo_draws 49 rfl) lf_Mo_32 rfl rfl rfl ?_
  refine pw_iload_n 2 (px_at td_Mo_draws 50 rfl) rfl rfl ?_
  obtain ⟨hi8, h⟩ := px_gd_e h
  refine pw_ial (px_at td_Mo_draws 51 rfl) rfl hi8 rfl ?_
  refine pw_aload_n 1 (px_at td_Mo_draws 52 rfl) rfl rfl ?_
  refine pw_getf (v := .inr (some (1, 34, 0))) (px_at td_Mo_draws 53 rfl) lf_Mo_75 rfl rfl rfl ?_
  refine pw_iload_n 2 (px_at td_Mo_draws 54 rfl) rfl rfl ?_
  obtain ⟨hi9, h⟩ := px_gd_e h
  refine pw_ial (px_at td_Mo_draws 55 rfl) rfl hi9 rfl ?_
  refine pw_imul (px_at td_Mo_draws 56 rfl) ?_
  refine pw_bipush (v := 16) (px_at td_Mo_draws 57 rfl) (by decide) ?_
  refine pw_idiv (px_at td_Mo_draws 58 rfl) (by decide) ?_
  refine pw_iadd (px_at td_Mo_draws 59 rfl) ?_
  refine pw_istore_n (L' := [(3, .inl ((((σ (1, 28, 0) (v2 + 6).toNatClampNeg) * (σ (1, 28, 0) (v2 + 1).toNatClampNeg)) / (σ (1, 7, 0) v1.toNatClampNeg)) + (((σ (1, 9, 0) v1.toNatClampNeg) * (σ (1, 34, 0) v1.toNatClampNeg)) / 16))), (0, .inr (some (0, 0, 0))), (1, .inl v1), (2, .inl v2)]) (px_at td_Mo_draws 60 rfl) rfl (by decide) rfl ?_
  refine pw_iload_n 2 (px_at td_Mo_draws 61 rfl) rfl rfl ?_
  refine pw_iconst (v := 1) (px_at td_Mo_draws 62 rfl) (by decide) ?_
  refine pw_iadd (px_at td_Mo_draws 63 rfl) ?_
  refine pw_istore (L' := [(4, .inl (v1 + 1)), (3, .inl ((((σ (1, 28, 0) (v2 + 6).toNatClampNeg) * (σ (1, 28, 0) (v2 + 1).toNatClampNeg)) / (σ (1, 7, 0) v1.toNatClampNeg)) + (((σ (1, 9, 0) v1.toNatClampNeg) * (σ (1, 34, 0) v1.toNatClampNeg)) / 16))), (0, .inr (some (0, 0, 0))), (1, .inl v1), (2, .inl v2)]) (px_at td_Mo_draws 64 rfl) (by decide) rfl ?_
  obtain ⟨e15, he15, h⟩ := px_b1_e h
  refine pw_L [(0, .inr (some (0, 0, 0))), (1, .inl v1), (2, .inl v2), (3, .inl ((((σ (1, 28, 0) (v2 + 6).toNatClampNeg) * (σ (1, 28, 0) (v2 + 1).toNatClampNeg)) / (σ (1, 7, 0) v1.toNatClampNeg)) + (((σ (1, 9, 0) v1.toNatClampNeg) * (σ (1, 34, 0) v1.toNatClampNeg)) / 16))), (4, .inl (v1 + 1))] [2, 3, 4, 1, 0] rfl ?_
  refine Mo_draws_L97_l he15 ?_
  refine pw_aload_n 0 (px_at td_Mo_draws 90 rfl) rfl rfl ?_
  refine pw_getf (v := .inr (some (1, 28, 0))) (px_at td_Mo_draws 91 rfl) lf_Mo_63 rfl rfl rfl ?_
  refine pw_iload_n 2 (px_at td_Mo_draws 92 rfl) rfl rfl ?_
  refine pw_iconst (v := 2) (px_at td_Mo_draws 93 rfl) (by decide) ?_
  refine pw_iadd (px_at td_Mo_draws 94 rfl) ?_
  refine pw_iload_n 3 (px_at td_Mo_draws 95 rfl) rfl rfl ?_
  obtain ⟨hi16, h⟩ := px_gd_e h
  obtain ⟨σ17, hσ17, h⟩ := px_l_e h
  refine pw_ias (px_at td_Mo_draws 96 rfl) rfl hi16 rfl hσ17 ?_
  refine pw_aload_n 0 (px_at td_Mo_draws 97 rfl) rfl rfl ?_
  refine pw_getf (v := .inr (some (1, 28, 0))) (px_at td_Mo_draws 98 rfl) lf_Mo_63 rfl rfl rfl ?_
  refine pw_iload_n 2 (px_at td_Mo_draws 99 rfl) rfl rfl ?_
  refine pw_iconst (v := 3) (px_at td_Mo_draws 100 rfl) (by decide) ?_
  refine pw_iadd (px_at td_Mo_draws 101 rfl) ?_
  refine pw_iload_n 3 (px_at td_Mo_draws 102 rfl) rfl rfl ?_
  refine pw_aload_n 0 (px_at td_Mo_draws 103 rfl) rfl rfl ?_
  refine pw_getf (v := .inr (some (1, 28, 0))) (px_at td_Mo_draws 104 rfl) lf_Mo_63 rfl rfl rfl ?_
  refine pw_iload_n 2 (px_at td_Mo_draws 105 rfl) rfl rfl ?_
  refine pw_bipush (v := 7) (px_at td_Mo_draws 106 rfl) (by decide) ?_
  refine pw_iadd (px_at td_Mo_draws 107 rfl) ?_
  obtain ⟨hi18, h⟩ := px_gd_e h
  refine pw_ial (px_at td_Mo_draws 108 rfl) rfl hi18 rfl ?_
  rcases px_ite h with ⟨hc31, h⟩ | ⟨hc31, h⟩
  · refine pw_icmp_le 175 (px_at td_Mo_draws 109 rfl) (by decide) (fun _ => ?_) (fun hn => absurd hc31 hn)
    refine pw_iconst (v := 0) (px_at td_Mo_draws 112 rfl) (by decide) ?_
    obtain ⟨hi19, h⟩ := px_gd_e h
    obtain ⟨σ20, hσ20, h⟩ := px_l_e h
    refine pw_ias (px_at td_Mo_draws 113 rfl) rfl hi19 rfl hσ20 ?_
    refine pw_aload_n 0 (px_at td_Mo_draws 114 rfl) rfl rfl ?_
    refine pw_getf (v := .inr (some (1, 28, 0))) (px_at td_Mo_draws 115 rfl) lf_Mo_63 rfl rfl rfl ?_
    refine pw_sipush (v := 186) (px_at td_Mo_draws 116 rfl) (by decide) ?_
    refine pw_dup2 (px_at td_Mo_draws 117 rfl) ?_
    refine pw_ial (px_at td_Mo_draws 118 rfl) rfl (px_inL (by decide) px_z186 (by decide)) px_z186 ?_
    refine pw_aload_n 0 (px_at td_Mo_draws 119 rfl) rfl rfl ?_
    refine pw_getf (v := .inr (some (1, 6, 0))) (px_at td_Mo_draws 120 rfl) lf_Mo_23 rfl rfl rfl ?_
    refine pw_iload_n 1 (px_at td_Mo_draws 121 rfl) rfl rfl ?_
    obtain ⟨hi21, h⟩ := px_gd_e h
    refine pw_ial (px_at td_Mo_draws 122 rfl) rfl hi21 rfl ?_
    refine pw_bipush (v := (-2)) (px_at td_Mo_draws 123 rfl) (by decide) ?_
    rcases px_ite h with ⟨hc24, h⟩ | ⟨hc24, h⟩
    · refine pw_icmp_ne 201 (px_at td_Mo_draws 124 rfl) (by decide) (fun hn => absurd hc24 hn) (fun _ => ?_)
      refine pw_iload_n 3 (px_at td_Mo_draws 125 rfl) rfl rfl ?_
      refine pw_goto 202 (px_at td_Mo_draws 126 rfl) (by decide) ?_
      refine pw_iadd (px_at td_Mo_draws 128 rfl) ?_
      obtain ⟨σ23, hσ23, h⟩ := px_l_e h
      refine pw_ias (px_at td_Mo_draws 129 rfl) rfl (px_inL (by decide) px_z186 (by decide)) px_z186 hσ23 ?_
      refine pw_iinc (q := 1) (v := (v1 + (-1))) (L' := [(1, .inl (v1 + (-1))), (0, .inr (some (0, 0, 0))), (2, .inl v2), (3, .inl e15)]) (px_at td_Mo_draws 130 rfl) rfl rfl (by decide) rfl ?_
      refine pw_goto 16 (px_at td_Mo_draws 131 rfl) (by decide) ?_
      refine pw_L [(0, .inr (some (0, 0, 0))), (1, .inl (v1 + (-1)))] [1, 0] rfl ?_
      exact hC ((v1 + (-1)), σ23) (Option.some.inj h).symm
    · refine pw_icmp_ne 201 (px_at td_Mo_draws 124 rfl) (by decide) (fun _ => ?_) (fun hn => absurd hn hc24)
      refine pw_iconst (v := 0) (px_at td_Mo_draws 127 rfl) (by decide) ?_
      refine pw_iadd (px_at td_Mo_draws 128 rfl) ?_
      obtain ⟨σ22, hσ22, h⟩ := px_l_e h
      refine pw_ias (px_at td_Mo_draws 129 rfl) rfl (px_inL (by decide) px_z186 (by decide)) px_z186 hσ22 ?_
      refine pw_iinc (q := 1) (v := (v1 + (-1))) (L' := [(1, .inl (v1 + (-1))), (0, .inr (some (0, 0, 0))), (2, .inl v2), (3, .inl e15)]) (px_at td_Mo_draws 130 rfl) rfl rfl (by decide) rfl ?_
      refine pw_goto 16 (px_at td_Mo_draws 131 rfl) (by decide) ?_
      refine pw_L [(0, .inr (some (0, 0, 0))), (1, .inl (v1 + (-1)))] [1, 0] rfl ?_
      exact hC ((v1 + (-1)), σ22) (Option.some.inj h).symm
  · refine pw_icmp_le 175 (px_at td_Mo_draws 109 rfl) (by decide) (fun hn => absurd hn hc31) (fun _ => ?_)
    refine pw_iconst (v := 1) (px_at td_Mo_draws 110 rfl) (by decide) ?_
    refine pw_goto 176 (px_at td_Mo_draws 111 rfl) (by decide) ?_
    obtain ⟨hi25, h⟩ := px_gd_e h
    obtain ⟨σ26, hσ26, h⟩ := px_l_e h
    refine pw_ias (px_at td_Mo_draws 113 rfl) rfl hi25 rfl hσ26 ?_
    refine pw_aload_n 0 (px_at td_Mo_draws 114 rfl) rfl rfl ?_
    refine pw_getf (v := .inr (some (1, 28, 0))) (px_at td_Mo_draws 115 rfl) lf_Mo_63 rfl rfl rfl ?_
    refine pw_sipush (v := 186) (px_at td_Mo_draws 116 rfl) (by decide) ?_
    refine pw_dup2 (px_at td_Mo_draws 117 rfl) ?_
    refine pw_ial (px_at td_Mo_draws 118 rfl) rfl (px_inL (by decide) px_z186 (by decide)) px_z186 ?_
    refine pw_aload_n 0 (px_at td_Mo_draws 119 rfl) rfl rfl ?_
    refine pw_getf (v := .inr (some (1, 6, 0))) (px_at td_Mo_draws 120 rfl) lf_Mo_23 rfl rfl rfl ?_
    refine pw_iload_n 1 (px_at td_Mo_draws 121 rfl) rfl rfl ?_
    obtain ⟨hi27, h⟩ := px_gd_e h
    refine pw_ial (px_at td_Mo_draws 122 rfl) rfl hi27 rfl ?_
    refine pw_bipush (v := (-2)) (px_at td_Mo_draws 123 rfl) (by decide) ?_
    rcases px_ite h with ⟨hc30, h⟩ | ⟨hc30, h⟩
    · refine pw_icmp_ne 201 (px_at td_Mo_draws 124 rfl) (by decide) (fun hn => absurd hc30 hn) (fun _ => ?_)
      refine pw_iload_n 3 (px_at td_Mo_draws 125 rfl) rfl rfl ?_
      refine pw_goto 202 (px_at td_Mo_draws 126 rfl) (by decide) ?_
      refine pw_iadd (px_at td_Mo_draws 128 rfl) ?_
      obtain ⟨σ29, hσ29, h⟩ := px_l_e h
      refine pw_ias (px_at td_Mo_draws 129 rfl) rfl (px_inL (by decide) px_z186 (by decide)) px_z186 hσ29 ?_
      refine pw_iinc (q := 1) (v := (v1 + (-1))) (L' := [(1, .inl (v1 + (-1))), (0, .inr (some (0, 0, 0))), (2, .inl v2), (3, .inl e15)]) (px_at td_Mo_draws 130 rfl) rfl rfl (by decide) rfl ?_
      refine pw_goto 16 (px_at td_Mo_draws 131 rfl) (by decide) ?_
      refine pw_L [(0, .inr (some (0, 0, 0))), (1, .inl (v1 + (-1)))] [1, 0] rfl ?_
      exact hC ((v1 + (-1)), σ29) (Option.some.inj h).symm
    · refine pw_icmp_ne 201 (px_at td_Mo_draws 124 rfl) (by decide) (fun _ => ?_) (fun hn => absurd hn hc30)
      refine pw_iconst (v := 0) (px_at td_Mo_draws 127 rfl) (by decide) ?_
      refine pw_iadd (px_at td_Mo_draws 128 rfl) ?_
      obtain ⟨σ28, hσ28, h⟩ := px_l_e h
      refine pw_ias (px_at td_Mo_draws 129 rfl) rfl (px_inL (by decide) px_z186 (by decide)) px_z186 hσ28 ?_
      refine pw_iinc (q := 1) (v := (v1 + (-1))) (L' := [(1, .inl (v1 + (-1))), (0, .inr (some (0, 0, 0))), (2, .inl v2), (3, .inl e15)]) (px_at td_Mo_draws 130 rfl) rfl rfl (by decide) rfl ?_
      refine pw_goto 16 (px_at td_Mo_draws 131 rfl) (by decide) ?_
      refine pw_L [(0, .inr (some (0, 0, 0))), (1, .inl (v1 + (-1)))] [1, 0] rfl ?_
      exact hC ((v1 + (-1)), σ28) (Option.some.inj h).symm
def Mo_draws_n16 (σ : pxS) (v1 : Int32) : Option ((Int32 × pxS) ⊕ (pxS)) :=
  (if v1 < 0 then some (.inr σ) else px_b1 (F_Mo_state σ v1) fun r3 =>
  (if r3 = 2 then Mo_draws_n43 σ v1 (13 * v1) else px_b1 (F_Mo_state σ v1) fun r32 =>
  (if r32 = 3 then Mo_draws_n43 σ v1 (13 * v1) else px_gd v1 24 (px_gd v1 12 (px_b1 (px_it (Mo_draws_L97 σ v1 (13 * v1)) px_N ((0 + (((σ (1, 9, 0) v1.toNatClampNeg) * (σ (1, 34, 0) v1.toNatClampNeg)) / 16)), (v1 + 1))) fun e35 =>
  px_gd ((13 * v1) + 2) 308 (px_l (px_up σ (1, 28, 0) ((13 * v1) + 2).toNatClampNeg e35) fun σ37 =>
  px_gd ((13 * v1) + 7) 308 ((if e35 ≤ (σ37 (1, 28, 0) ((13 * v1) + 7).toNatClampNeg) then px_gd ((13 * v1) + 3) 308 (px_l (px_up σ37 (1, 28, 0) ((13 * v1) + 3).toNatClampNeg 0) fun σ40 =>
  px_gd v1 24 ((if (σ40 (1, 6, 0) v1.toNatClampNeg) = (-2) then px_l (px_up σ40 (1, 28, 0) 186 ((σ40 (1, 28, 0) 186) + e35)) fun σ43 =>
  some (.inl ((v1 + (-1)), σ43)) else px_l (px_up σ40 (1, 28, 0) 186 ((σ40 (1, 28, 0) 186) + 0)) fun σ42 =>
  some (.inl ((v1 + (-1)), σ42))))) else px_gd ((13 * v1) + 3) 308 (px_l (px_up σ37 (1, 28, 0) ((13 * v1) + 3).toNatClampNeg 1) fun σ46 =>
  px_gd v1 24 ((if (σ46 (1, 6, 0) v1.toNatClampNeg) = (-2) then px_l (px_up σ46 (1, 28, 0) 186 ((σ46 (1, 28, 0) 186) + e35)) fun σ49 =>
  some (.inl ((v1 + (-1)), σ49)) else px_l (px_up σ46 (1, 28, 0) 186 ((σ46 (1, 28, 0) 186) + 0)) fun σ48 =>
  some (.inl ((v1 + (-1)), σ48)))))))))))))
set_option maxRecDepth 100000 in
theorem Mo_draws_n16_l {l : Launch} {ids : List pxI} {Rt : Option pxV → List pxI → pxG → pxS → Prop} {σ : pxS} {v1 : Int32} {o : (Int32 × pxS) ⊕ (pxS)} (h : Mo_draws_n16 σ v1 = some o) (hC : ∀ s, o = .inl s → pw l (px_R 2) y_Mo_draws c_Mo_draws 5 none 16 [(0, .inr (some (0, 0, 0))), (1, .inl s.1)] [] ids mG s.2 0 0 Rt) (hX0 : ∀ e, o = .inr e → pw l (px_R 2) y_Mo_draws c_Mo_draws 5 none 210 [] [] ids mG e 0 0 Rt) : pw l (px_R 2) y_Mo_draws c_Mo_draws 5 none 16 [(0, .inr (some (0, 0, 0))), (1, .inl v1)] [] ids mG σ 0 0 Rt := by
  unfold Mo_draws_n16 at h
  refine pw_iload_n 1 (px_at td_Mo_draws 10 rfl) rfl rfl ?_
  rcases px_ite h with ⟨hc54, h⟩ | ⟨hc54, h⟩
  · refine pw_if_lt 210 (px_at td_Mo_draws 11 rfl) (by decide) (fun _ => ?_) (fun hn => absurd hc54 hn)
    refine pw_L [] [] rfl ?_
    exact hX0 σ (Option.some.inj h).symm
  · refine pw_if_lt 210 (px_at td_Mo_draws 11 rfl) (by decide) (fun hn => absurd hn hc54) (fun _ => ?_)
    refine pw_bipush (v := 13) (px_at td_Mo_draws 12 rfl) (by decide) ?_
    refine pw_iload_n 1 (px_at td_Mo_draws 13 rfl) rfl rfl ?_
    refine pw_imul (px_at td_Mo_draws 14 rfl) ?_
    refine pw_istore_n (L' := [(2, .inl (13 * v1)), (0, .inr (some (0, 0, 0))), (1, .inl v1)]) (px_at td_Mo_draws 15 rfl) rfl (by decide) rfl ?_
    refine pw_aload_n 1 (px_at td_Mo_draws 16 rfl) rfl rfl ?_
    refine pw_iload_n 2 (px_at td_Mo_draws 17 rfl) rfl rfl ?_
    obtain ⟨r3, hk3, h⟩ := px_b1_e h
    refine pw_cV1 (0, 0, 0) [.inl v1] [] (px_at td_Mo_draws 18 rfl) lV_Mo_230 rfl rfl rfl (Nat.le_of_ble_eq_true rfl) (by decide) (k_Mo_state hk3) ?_
    refine pw_iconst (v := 2) (px_at td_Mo_draws 19 rfl) (by decide) ?_
    rcases px_ite h with ⟨hc53, h⟩ | ⟨hc53, h⟩
    · refine pw_icmp_eq 43 (px_at td_Mo_draws 20 rfl) (by decide) (fun _ => ?_) (fun hn => absurd hc53 hn)
      refine pw_L [(0, .inr (some (0, 0, 0))), (1, .inl v1), (2, .inl (13 * v1))] [1, 2, 0] rfl ?_
      exact Mo_draws_n43_l h hC hX0
    · refine pw_icmp_eq 43 (px_at td_Mo_draws 20 rfl) (by decide) (fun hn => absurd hn hc53) (fun _ => ?_)
      refine pw_aload_n 1 (px_at td_Mo_draws 21 rfl) rfl rfl ?_
      refine pw_iload_n 2 (px_at td_Mo_draws 22 rfl) rfl rfl ?_
      obtain ⟨r32, hk32, h⟩ := px_b1_e h
      refine pw_cV1 (0, 0, 0) [.inl v1] [] (px_at td_Mo_draws 23 rfl) lV_Mo_230 rfl rfl rfl (Nat.le_of_ble_eq_true rfl) (by decide) (k_Mo_state hk32) ?_
      refine pw_iconst (v := 3) (px_at td_Mo_draws 24 rfl) (by decide) ?_
      rcases px_ite h with ⟨hc52, h⟩ | ⟨hc52, h⟩
      · refine pw_icmp_ne 71 (px_at td_Mo_draws 25 rfl) (by decide) (fun hn => absurd hc52 hn) (fun _ => ?_)
        refine pw_L [(0, .inr (some (0, 0, 0))), (1, .inl v1), (2, .inl (13 * v1))] [1, 2, 0] rfl ?_
        exact Mo_draws_n43_l h hC hX0
      · refine pw_icmp_ne 71 (px_at td_Mo_draws 25 rfl) (by decide) (fun _ => ?_) (fun hn => absurd hn hc52)
        refine pw_iconst (v := 0) (px_at td_Mo_draws 45 rfl) (by decide) ?_
        refine pw_istore_n (L' := [(3, .inl 0), (2, .inl (13 * v1)), (0, .inr (some (0, 0, 0))), (1, .inl v1)]) (px_at td_Mo_draws 46 rfl) rfl (by decide) rfl ?_
        refine pw_iload_n 0 (px_at td_Mo_draws 47 rfl) rfl rfl ?_
        refine pw_aload_n 2 (px_at td_Mo_draws 48 rfl) rfl rfl ?_
        refine pw_getf (v := .inr (some (1, 9, 0))) (px_at td_Mo_draws 49 rfl) lf_Mo_32 rfl rfl rfl ?_
        refine pw_iload_n 3 (px_at td_Mo_draws 50 rfl) rfl rfl ?_
        obtain ⟨hi33, h⟩ := px_gd_e h
        refine pw_ial (px_at td_Mo_draws 51 rfl) rfl hi33 rfl ?_
        refine pw_aload_n 2 (px_at td_Mo_draws 52 rfl) rfl rfl ?_
        refine pw_getf (v := .inr (some (1, 34, 0))) (px_at td_Mo_draws 53 rfl) lf_Mo_75 rfl rfl rfl ?_
        refine pw_iload_n 3 (px_at td_Mo_draws 54 rfl) rfl rfl ?_
        obtain ⟨hi34, h⟩ := px_gd_e h
        refine pw_ial (px_at td_Mo_draws 55 rfl) rfl hi34 rfl ?_
        refine pw_imul (px_at td_Mo_draws 56 rfl) ?_
        refine pw_bipush (v := 16) (px_at td_Mo_draws 57 rfl) (by decide) ?_
        refine pw_idiv (px_at td_Mo_draws 58 rfl) (by decide) ?_
        refine pw_iadd (px_at td_Mo_draws 59 rfl) ?_
        refine pw_istore_n (L' := [(3, .inl (0 + (((σ (1, 9, 0) v1.toNatClampNeg) * (σ (1, 34, 0) v1.toNatClampNeg)) / 16))), (2, .inl (13 * v1)), (0, .inr (some (0, 0, 0))), (1, .inl v1)]) (px_at td_Mo_draws 60 rfl) rfl (by decide) rfl ?_
        refine pw_iload_n 3 (px_at td_Mo_draws 61 rfl) rfl rfl ?_
        refine pw_iconst (v := 1) (px_at td_Mo_draws 62 rfl) (by decide) ?_
        refine pw_iadd (px_at td_Mo_draws 63 rfl) ?_
        refine pw_istore (L' := [(4, .inl (v1 + 1)), (3, .inl (0 + (((σ (1, 9, 0) v1.toNatClampNeg) * (σ (1, 34, 0) v1.toNatClampNeg)) / 16))), (2, .inl (13 * v1)), (0, .inr (some (0, 0, 0))), (1, .inl v1)]) (px_at td_Mo_draws 64 rfl) (by decide) rfl ?_
        obtain ⟨e35, he35, h⟩ := px_b1_e h
        refine pw_L [(0, .inr (some (0, 0, 0))), (1, .inl v1), (2, .inl (13 * v1)), (3, .inl (0 + (((σ (1, 9, 0) v1.toNatClampNeg) * (σ (1, 34, 0) v1.toNatClampNeg)) / 16))), (4, .inl (v1 + 1))] [3, 4, 2, 1, 0] rfl ?_
        refine Mo_draws_L97_l he35 ?_
        refine pw_aload_n 0 (px_at td_Mo_draws 90 rfl) rfl rfl ?_
        refine pw_getf (v := .inr (some (1, 28, 0))) (px_at td_Mo_draws 91 rfl) lf_Mo_63 rfl rfl rfl ?_
        refine pw_iload_n 2 (px_at td_Mo_draws 92 rfl) rfl rfl ?_
        refine pw_iconst (v := 2) (px_at td_Mo_draws 93 rfl) (by decide) ?_
        refine pw_iadd (px_at td_Mo_draws 94 rfl) ?_
        refine pw_iload_n 3 (px_at td_Mo_draws 95 rfl) rfl rfl ?_
        obtain ⟨hi36, h⟩ := px_gd_e h
        obtain ⟨σ37, hσ37, h⟩ := px_l_e h
        refine pw_ias (px_at td_Mo_draws 96 rfl) rfl hi36 rfl hσ37 ?_
        refine pw_aload_n 0 (px_at td_Mo_draws 97 rfl) rfl rfl ?_
        refine pw_getf (v := .inr (some (1, 28, 0))) (px_at td_Mo_draws 98 rfl) lf_Mo_63 rfl rfl rfl ?_
        refine pw_iload_n 2 (px_at td_Mo_draws 99 rfl) rfl rfl ?_
        refine pw_iconst (v := 3) (px_at td_Mo_draws 100 rfl) (by decide) ?_
        refine pw_iadd (px_at td_Mo_draws 101 rfl) ?_
        refine pw_iload_n 3 (px_at td_Mo_draws 102 rfl) rfl rfl ?_
        refine pw_aload_n 0 (px_at td_Mo_draws 103 rfl) rfl rfl ?_
        refine pw_getf (v := .inr (some (1, 28, 0))) (px_at td_Mo_draws 104 rfl) lf_Mo_63 rfl rfl rfl ?_
        refine pw_iload_n 2 (px_at td_Mo_draws 105 rfl) rfl rfl ?_
        refine pw_bipush (v := 7) (px_at td_Mo_draws 106 rfl) (by decide) ?_
        refine pw_iadd (px_at td_Mo_draws 107 rfl) ?_
        obtain ⟨hi38, h⟩ := px_gd_e h
        refine pw_ial (px_at td_Mo_draws 108 rfl) rfl hi38 rfl ?_
        rcases px_ite h with ⟨hc51, h⟩ | ⟨hc51, h⟩
        · refine pw_icmp_le 175 (px_at td_Mo_draws 109 rfl) (by decide) (fun _ => ?_) (fun hn => absurd hc51 hn)
          refine pw_iconst (v := 0) (px_at td_Mo_draws 112 rfl) (by decide) ?_
          obtain ⟨hi39, h⟩ := px_gd_e h
          obtain ⟨σ40, hσ40, h⟩ := px_l_e h
          refine pw_ias (px_at td_Mo_draws 113 rfl) rfl hi39 rfl hσ40 ?_
          refine pw_aload_n 0 (px_at td_Mo_draws 114 rfl) rfl rfl ?_
          refine pw_getf (v := .inr (some (1, 28, 0))) (px_at td_Mo_draws 115 rfl) lf_Mo_63 rfl rfl rfl ?_
          refine pw_sipush (v := 186) (px_at td_Mo_draws 116 rfl) (by decide) ?_
          refine pw_dup2 (px_at td_Mo_draws 117 rfl) ?_
          refine pw_ial (px_at td_Mo_draws 118 rfl) rfl (px_inL (by decide) px_z186 (by decide)) px_z186 ?_
          refine pw_aload_n 0 (px_at td_Mo_draws 119 rfl) rfl rfl ?_
          refine pw_getf (v := .inr (some (1, 6, 0))) (px_at td_Mo_draws 120 rfl) lf_Mo_23 rfl rfl rfl ?_
          refine pw_iload_n 1 (px_at td_Mo_draws 121 rfl) rfl rfl ?_
          obtain ⟨hi41, h⟩ := px_gd_e h
          refine pw_ial (px_at td_Mo_draws 122 rfl) rfl hi41 rfl ?_
          refine pw_bipush (v := (-2)) (px_at td_Mo_draws 123 rfl) (by decide) ?_
          rcases px_ite h with ⟨hc44, h⟩ | ⟨hc44, h⟩
          · refine pw_icmp_ne 201 (px_at td_Mo_draws 124 rfl) (by decide) (fun hn => absurd hc44 hn) (fun _ => ?_)
            refine pw_iload_n 3 (px_at td_Mo_draws 125 rfl) rfl rfl ?_
            refine pw_goto 202 (px_at td_Mo_draws 126 rfl) (by decide) ?_
            refine pw_iadd (px_at td_Mo_draws 128 rfl) ?_
            obtain ⟨σ43, hσ43, h⟩ := px_l_e h
            refine pw_ias (px_at td_Mo_draws 129 rfl) rfl (px_inL (by decide) px_z186 (by decide)) px_z186 hσ43 ?_
            refine pw_iinc (q := 1) (v := (v1 + (-1))) (L' := [(1, .inl (v1 + (-1))), (0, .inr (some (0, 0, 0))), (2, .inl (13 * v1)), (3, .inl e35)]) (px_at td_Mo_draws 130 rfl) rfl rfl (by decide) rfl ?_
            refine pw_goto 16 (px_at td_Mo_draws 131 rfl) (by decide) ?_
            refine pw_L [(0, .inr (some (0, 0, 0))), (1, .inl (v1 + (-1)))] [1, 0] rfl ?_
            exact hC ((v1 + (-1)), σ43) (Option.some.inj h).symm
          · refine pw_icmp_ne 201 (px_at td_Mo_draws 124 rfl) (by decide) (fun _ => ?_) (fun hn => absurd hn hc44)
            refine pw_iconst (v := 0) (px_at td_Mo_draws 127 rfl) (by decide) ?_
            refine pw_iadd (px_at td_Mo_draws 128 rfl) ?_
            obtain ⟨σ42, hσ42, h⟩ := px_l_e h
            refine pw_ias (px_at td_Mo_draws 129 rfl) rfl (px_inL (by decide) px_z186 (by decide)) px_z186 hσ42 ?_
            refine pw_iinc (q := 1) (v := (v1 + (-1))) (L' := [(1, .inl (v1 + (-1))), (0, .inr (some (0, 0, 0))), (2, .inl (13 * v1)), (3, .inl e35)]) (px_at td_Mo_draws 130 rfl) rfl rfl (by decide) rfl ?_
            refine pw_goto 16 (px_at td_Mo_draws 131 rfl) (by decide) ?_
            refine pw_L [(0, .inr (some (0, 0, 0))), (1, .inl (v1 + (-1)))] [1, 0] rfl ?_
            exact hC ((v1 + (-1)), σ42) (Option.some.inj h).symm
        · refine pw_icmp_le 175 (px_at td_Mo_draws 109 rfl) (by decide) (fun hn => absurd hn hc51) (fun _ => ?_)
          refine pw_iconst (v := 1) (px_at td_Mo_draws 110 rfl) (by decide) ?_
          refine pw_goto 176 (px_at td_Mo_draws 111 rfl) (by decide) ?_
          obtain ⟨hi45, h⟩ := px_gd_e h
          obtain ⟨σ46, hσ46, h⟩ := px_l_e h
          refine pw_ias (px_at td_Mo_draws 113 rfl) rfl hi45 rfl hσ46 ?_
          refine pw_aload_n 0 (px_at td_Mo_draws 114 rfl) rfl rfl ?_
          refine pw_getf (v := .inr (some (1, 28, 0))) (px_at td_Mo_draws 115 rfl) lf_Mo_63 rfl rfl rfl ?_
          refine pw_sipush (v := 186) (px_at td_Mo_draws 116 rfl) (by decide) ?_
          refine pw_dup2 (px_at td_Mo_draws 117 rfl) ?_
          refine pw_ial (px_at td_Mo_draws 118 rfl) rfl (px_inL (by decide) px_z186 (by decide)) px_z186 ?_
          refine pw_aload_n 0 (px_at td_Mo_draws 119 rfl) rfl rfl ?_
          refine pw_getf (v := .inr (some (1, 6, 0))) (px_at td_Mo_draws 120 rfl) lf_Mo_23 rfl rfl rfl ?_
          refine pw_iload_n 1 (px_at td_Mo_draws 121 rfl) rfl rfl ?_
          obtain ⟨hi47, h⟩ := px_gd_e h
          refine pw_ial (px_at td_Mo_draws 122 rfl) rfl hi47 rfl ?_
          refine pw_bipush (v := (-2)) (px_at td_Mo_draws 123 rfl) (by decide) ?_
          rcases px_ite h with ⟨hc50, h⟩ | ⟨hc50, h⟩
          · refine pw_icmp_ne 201 (px_at td_Mo_draws 124 rfl) (by decide) (fun hn => absurd hc50 hn) (fun _ => ?_)
            refine pw_iload_n 3 (px_at td_Mo_draws 125 rfl) rfl rfl ?_
            refine pw_goto 202 (px_at td_Mo_draws 126 rfl) (by decide) ?_
            refine pw_iadd (px_at td_Mo_draws 128 rfl) ?_
            obtain ⟨σ49, hσ49, h⟩ := px_l_e h
            refine pw_ias (px_at td_Mo_draws 129 rfl) rfl (px_inL (by decide) px_z186 (by decide)) px_z186 hσ49 ?_
            refine pw_iinc (q := 1) (v := (v1 + (-1))) (L' := [(1, .inl (v1 + (-1))), (0, .inr (some (0, 0, 0))), (2, .inl (13 * v1)), (3, .inl e35)]) (px_at td_Mo_draws 130 rfl) rfl rfl (by decide) rfl ?_
            refine pw_goto 16 (px_at td_Mo_draws 131 rfl) (by decide) ?_
            refine pw_L [(0, .inr (some (0, 0, 0))), (1, .inl (v1 + (-1)))] [1, 0] rfl ?_
            exact hC ((v1 + (-1)), σ49) (Option.some.inj h).symm
          · refine pw_icmp_ne 201 (px_at td_Mo_draws 124 rfl) (by decide) (fun _ => ?_) (fun hn => absurd hn hc50)
            refine pw_iconst (v := 0) (px_at td_Mo_draws 127 rfl) (by decide) ?_
            refine pw_iadd (px_at td_Mo_draws 128 rfl) ?_
            obtain ⟨σ48, hσ48, h⟩ := px_l_e h
            refine pw_ias (px_at td_Mo_draws 129 rfl) rfl (px_inL (by decide) px_z186 (by decide)) px_z186 hσ48 ?_
            refine pw_iinc (q := 1) (v := (v1 + (-1))) (L' := [(1, .inl (v1 + (-1))), (0, .inr (some (0, 0, 0))), (2, .inl (13 * v1)), (3, .inl e35)]) (px_at td_Mo_draws 130 rfl) rfl rfl (by decide) rfl ?_
            refine pw_goto 16 (px_at td_Mo_draws 131 rfl) (by decide) ?_
            refine pw_L [(0, .inr (some (0, 0, 0))), (1, .inl (v1 + (-1)))] [1, 0] rfl ?_
            exact hC ((v1 + (-1)), σ48) (Option.some.inj h).symm
def Mo_draws_L16  : (Int32 × pxS) → Option ((Int32 × pxS) ⊕ (pxS)) := fun s => Mo_draws_n16 s.2 s.1
set_option maxRecDepth 100000 in
theorem Mo_draws_L16_l {l : Launch} {ids : List pxI} {Rt : Option pxV → List pxI → pxG → pxS → Prop}  {n : Nat} {s : Int32 × pxS} {e : pxS} (h : px_it (Mo_draws_L16 ) n s = some e) (hX0 : pw l (px_R 2) y_Mo_draws c_Mo_draws 5 none 210 [] [] ids mG e 0 0 Rt) : pw l (px_R 2) y_Mo_draws c_Mo_draws 5 none 16 [(0, .inr (some (0, 0, 0))), (1, .inl s.1)] [] ids mG s.2 0 0 Rt := by
  refine px_it_rule (f := Mo_draws_L16 ) (C := fun s => pw l (px_R 2) y_Mo_draws c_Mo_draws 5 none 16 [(0, .inr (some (0, 0, 0))), (1, .inl s.1)] [] ids mG s.2 0 0 Rt) (X := fun e => (pw l (px_R 2) y_Mo_draws c_Mo_draws 5 none 210 [] [] ids mG e 0 0 Rt)) ?_ ?_ n s e h hX0
  · intro s s1 hf hC
    exact Mo_draws_n16_l hf (fun s2 hs => by cases hs; exact hC) (fun e he => by cases he)
  · intro s e hf hX
    exact Mo_draws_n16_l hf (fun s2 hs => by cases hs) (fun e1 he => by cases he; exact hX)
def F_Mo_draws (σ : pxS)  : Option (pxS) :=
  px_l (px_up σ (1, 28, 0) 186 0) fun σ1 =>
  px_b1 (F_Mo_rails σ1 ) fun r2 =>
  px_b1 (px_it (Mo_draws_L16 ) px_N ((r2 - 1), σ1)) fun e55 =>
  some e55
set_option maxRecDepth 100000 in
theorem e_Mo_draws {l : Launch} {ids : List pxI} {Rt : Option pxV → List pxI → pxG → pxS → Prop} {σ : pxS}  {res : pxS} (h : F_Mo_draws σ  = some res) (hR : Rt none ids mG res) : pw l (px_R 2) y_Mo_draws c_Mo_draws 5 none 0 [(0, .inr (some (0, 0, 0)))] [] ids mG σ 0 0 Rt := by
  unfold F_Mo_draws at h
  refine pw_aload_n 0 (px_at td_Mo_draws 0 rfl) rfl rfl ?_
  refine pw_getf (v := .inr (some (1, 28, 0))) (px_at td_Mo_draws 1 rfl) lf_Mo_63 rfl rfl rfl ?_
  refine pw_sipush (v := 186) (px_at td_Mo_draws 2 rfl) (by decide) ?_
  refine pw_iconst (v := 0) (px_at td_Mo_draws 3 rfl) (by decide) ?_
  obtain ⟨σ1, hσ1, h⟩ := px_l_e h
  refine pw_ias (px_at td_Mo_draws 4 rfl) rfl (px_inL (by decide) px_z186 (by decide)) px_z186 hσ1 ?_
  refine pw_aload_n 0 (px_at td_Mo_draws 5 rfl) rfl rfl ?_
  obtain ⟨r2, hk2, h⟩ := px_b1_e h
  refine pw_cV1 (0, 0, 0) [] [] (px_at td_Mo_draws 6 rfl) lV_Mo_223 rfl rfl rfl (Nat.le_of_ble_eq_true rfl) (by decide) (k_Mo_rails hk2) ?_
  refine pw_iconst (v := 1) (px_at td_Mo_draws 7 rfl) (by decide) ?_
  refine pw_isub (px_at td_Mo_draws 8 rfl) ?_
  refine pw_istore_n (L' := [(1, .inl (r2 - 1)), (0, .inr (some (0, 0, 0)))]) (px_at td_Mo_draws 9 rfl) rfl (by decide) rfl ?_
  obtain ⟨e55, he55, h⟩ := px_b1_e h
  refine pw_L [(0, .inr (some (0, 0, 0))), (1, .inl (r2 - 1))] [1, 0] rfl ?_
  refine Mo_draws_L16_l he55 ?_
  obtain rfl := Option.some.inj h
  exact pw_vret (px_at td_Mo_draws 132 rfl) rfl (Nat.le_refl 0) (Nat.le_refl 0) hR
theorem k_Mo_draws {l : Launch} {ids : List pxI} {σ : pxS}  {res : pxS} (h : F_Mo_draws σ  = some res) : pm l y_Mo_draws c_Mo_draws 5 none (px_R 2) [.inr (some (0, 0, 0))] ids mG σ (px_r none ids mG res) :=
  pm_ofF (by decide +kernel) (Nat.le_of_ble_eq_true rfl) (e_Mo_draws h ⟨rfl, rfl, rfl, rfl⟩)
/-! Mo_trips -/
def F_Mo_trips (σ : pxS) (v1 : Int32) : Option (pxS) :=
  px_gd ((13 * v1) + 5) 308 (px_gd ((13 * v1) + 5) 308 (px_l (px_up σ (1, 28, 0) ((13 * v1) + 5).toNatClampNeg ((σ (1, 28, 0) ((13 * v1) + 5).toNatClampNeg) + 1)) fun σ3 =>
  px_b1 (F_Mo_logs σ3 v1 2) fun σ4 =>
  px_b1 (F_Mo_hangOn σ4 v1) fun r5 =>
  px_b1 (F_Mo_unwinds σ4 ((1 <<< (v1 &&& 31)) ||| r5) v1) fun σ6 =>
  (if (σ6 (1, 28, 0) 183) = 1 then px_b1 (F_Mo_fails σ6 0) fun σ7 =>
  some σ7 else some σ6)))
set_option maxRecDepth 100000 in
theorem e_Mo_trips {l : Launch} {ids : List pxI} {Rt : Option pxV → List pxI → pxG → pxS → Prop} {σ : pxS} {v1 : Int32} {res : pxS} (h : F_Mo_trips σ v1 = some res) (hR : Rt none ids mG res) : pw l (px_R 6) y_Mo_trips c_Mo_trips 2 none 0 [(0, .inr (some (0, 0, 0))), (1, .inl v1)] [] ids mG σ 0 0 Rt := by
  unfold F_Mo_trips at h
  refine pw_aload_n 0 (px_at td_Mo_trips 0 rfl) rfl rfl ?_
  refine pw_getf (v := .inr (some (1, 28, 0))) (px_at td_Mo_trips 1 rfl) lf_Mo_63 rfl rfl rfl ?_
  refine pw_bipush (v := 13) (px_at td_Mo_trips 2 rfl) (by decide) ?_
  refine pw_iload_n 1 (px_at td_Mo_trips 3 rfl) rfl rfl ?_
  refine pw_imul (px_at td_Mo_trips 4 rfl) ?_
  refine pw_iconst (v := 5) (px_at td_Mo_trips 5 rfl) (by decide) ?_
  refine pw_iadd (px_at td_Mo_trips 6 rfl) ?_
  refine pw_dup2 (px_at td_Mo_trips 7 rfl) ?_
  obtain ⟨hi1, h⟩ := px_gd_e h
  refine pw_ial (px_at td_Mo_trips 8 rfl) rfl hi1 rfl ?_
  refine pw_iconst (v := 1) (px_at td_Mo_trips 9 rfl) (by decide) ?_
  refine pw_iadd (px_at td_Mo_trips 10 rfl) ?_
  obtain ⟨hi2, h⟩ := px_gd_e h
  obtain ⟨σ3, hσ3, h⟩ := px_l_e h
  refine pw_ias (px_at td_Mo_trips 11 rfl) rfl hi2 rfl hσ3 ?_
  refine pw_aload_n 0 (px_at td_Mo_trips 12 rfl) rfl rfl ?_
  refine pw_iload_n 1 (px_at td_Mo_trips 13 rfl) rfl rfl ?_
  refine pw_iconst (v := 2) (px_at td_Mo_trips 14 rfl) (by decide) ?_
  obtain ⟨σ4, hk4, h⟩ := px_b1_e h
  refine pw_cV0 (0, 0, 0) [.inl v1, .inl 2] [] (px_at td_Mo_trips 15 rfl) lV_Mo_256 rfl rfl rfl (Nat.le_of_ble_eq_true rfl) (by decide) (k_Mo_logs hk4) ?_
  refine pw_aload_n 0 (px_at td_Mo_trips 16 rfl) rfl rfl ?_
  refine pw_iconst (v := 1) (px_at td_Mo_trips 17 rfl) (by decide) ?_
  refine pw_iload_n 1 (px_at td_Mo_trips 18 rfl) rfl rfl ?_
  refine pw_ishl (px_at td_Mo_trips 19 rfl) ?_
  refine pw_aload_n 0 (px_at td_Mo_trips 20 rfl) rfl rfl ?_
  refine pw_iload_n 1 (px_at td_Mo_trips 21 rfl) rfl rfl ?_
  obtain ⟨r5, hk5, h⟩ := px_b1_e h
  refine pw_cV1 (0, 0, 0) [.inl v1] [.inl (1 <<< (v1 &&& 31)), .inr (some (0, 0, 0))] (px_at td_Mo_trips 22 rfl) lV_Mo_250 rfl rfl rfl (Nat.le_of_ble_eq_true rfl) (by decide) (k_Mo_hangOn hk5) ?_
  refine pw_ior (px_at td_Mo_trips 23 rfl) ?_
  refine pw_iload_n 1 (px_at td_Mo_trips 24 rfl) rfl rfl ?_
  obtain ⟨σ6, hk6, h⟩ := px_b1_e h
  refine pw_cV0 (0, 0, 0) [.inl ((1 <<< (v1 &&& 31)) ||| r5), .inl v1] [] (px_at td_Mo_trips 25 rfl) lV_Mo_253 rfl rfl rfl (Nat.le_of_ble_eq_true rfl) (by decide) (k_Mo_unwinds hk6) ?_
  refine pw_aload_n 0 (px_at td_Mo_trips 26 rfl) rfl rfl ?_
  refine pw_getf (v := .inr (some (1, 28, 0))) (px_at td_Mo_trips 27 rfl) lf_Mo_63 rfl rfl rfl ?_
  refine pw_sipush (v := 183) (px_at td_Mo_trips 28 rfl) (by decide) ?_
  refine pw_ial (px_at td_Mo_trips 29 rfl) rfl (px_inL (by decide) px_z183 (by decide)) px_z183 ?_
  refine pw_iconst (v := 1) (px_at td_Mo_trips 30 rfl) (by decide) ?_
  rcases px_ite h with ⟨hc8, h⟩ | ⟨hc8, h⟩
  · refine pw_icmp_ne 52 (px_at td_Mo_trips 31 rfl) (by decide) (fun hn => absurd hc8 hn) (fun _ => ?_)
    refine pw_aload_n 0 (px_at td_Mo_trips 32 rfl) rfl rfl ?_
    refine pw_iconst (v := 0) (px_at td_Mo_trips 33 rfl) (by decide) ?_
    obtain ⟨σ7, hk7, h⟩ := px_b1_e h
    refine pw_cV0 (0, 0, 0) [.inl 0] [] (px_at td_Mo_trips 34 rfl) lV_Mo_269 rfl rfl rfl (Nat.le_of_ble_eq_true rfl) (by decide) (k_Mo_fails hk7) ?_
    obtain rfl := Option.some.inj h
    exact pw_vret (px_at td_Mo_trips 35 rfl) rfl (Nat.le_refl 0) (Nat.le_refl 0) hR
  · refine pw_icmp_ne 52 (px_at td_Mo_trips 31 rfl) (by decide) (fun _ => ?_) (fun hn => absurd hn hc8)
    obtain rfl := Option.some.inj h
    exact pw_vret (px_at td_Mo_trips 35 rfl) rfl (Nat.le_refl 0) (Nat.le_refl 0) hR
theorem k_Mo_trips {l : Launch} {ids : List pxI} {σ : pxS} {v1 : Int32} {res : pxS} (h : F_Mo_trips σ v1 = some res) : pm l y_Mo_trips c_Mo_trips 2 none (px_R 6) [.inr (some (0, 0, 0)), .inl v1] ids mG σ (px_r none ids mG res) :=
  pm_ofF (by decide +kernel) (Nat.le_of_ble_eq_true rfl) (e_Mo_trips h ⟨rfl, rfl, rfl, rfl⟩)
/-! Mo_tickGoes -/
def Mo_tickGoes_n26 (σ : pxS) (v1 : Int32) : Option ((Int32 × pxS) ⊕ (pxS)) :=
  px_b1 (F_Mo_rails σ ) fun r5 =>
  (if r5 ≤ v1 then some (.inr σ) else px_b1 (F_Mo_voltsGo σ v1) fun σ6 =>
  some (.inl ((v1 + 1), σ6)))
set_option maxRecDepth 100000 in
theorem Mo_tickGoes_n26_l {l : Launch} {ids : List pxI} {Rt : Option pxV → List pxI → pxG → pxS → Prop} {σ : pxS} {v1 : Int32} {o : (Int32 × pxS) ⊕ (pxS)} (h : Mo_tickGoes_n26 σ v1 = some o) (hC : ∀ s, o = .inl s → pw l (px_R 8) y_Mo_tickGoes c_Mo_tickGoes 3 none 26 [(0, .inr (some (0, 0, 0))), (1, .inl s.1)] [] ids mG s.2 0 0 Rt) (hX0 : ∀ e, o = .inr e → pw l (px_R 8) y_Mo_tickGoes c_Mo_tickGoes 3 none 45 [(0, .inr (some (0, 0, 0)))] [] ids mG e 0 0 Rt) : pw l (px_R 8) y_Mo_tickGoes c_Mo_tickGoes 3 none 26 [(0, .inr (some (0, 0, 0))), (1, .inl v1)] [] ids mG σ 0 0 Rt := by
  unfold Mo_tickGoes_n26 at h
  refine pw_iload_n 1 (px_at td_Mo_tickGoes 16 rfl) rfl rfl ?_
  refine pw_aload_n 0 (px_at td_Mo_tickGoes 17 rfl) rfl rfl ?_
  obtain ⟨r5, hk5, h⟩ := px_b1_e h
  refine pw_cV1 (0, 0, 0) [] [.inl v1] (px_at td_Mo_tickGoes 18 rfl) lV_Mo_223 rfl rfl rfl (Nat.le_of_ble_eq_true rfl) (by decide) (k_Mo_rails hk5) ?_
  rcases px_ite h with ⟨hc7, h⟩ | ⟨hc7, h⟩
  · refine pw_icmp_ge 45 (px_at td_Mo_tickGoes 19 rfl) (by decide) (fun _ => ?_) (fun hn => absurd hc7 hn)
    refine pw_L [(0, .inr (some (0, 0, 0)))] [0] rfl ?_
    exact hX0 σ (Option.some.inj h).symm
  · refine pw_icmp_ge 45 (px_at td_Mo_tickGoes 19 rfl) (by decide) (fun hn => absurd hn hc7) (fun _ => ?_)
    refine pw_aload_n 0 (px_at td_Mo_tickGoes 20 rfl) rfl rfl ?_
    refine pw_iload_n 1 (px_at td_Mo_tickGoes 21 rfl) rfl rfl ?_
    obtain ⟨σ6, hk6, h⟩ := px_b1_e h
    refine pw_cV0 (0, 0, 0) [.inl v1] [] (px_at td_Mo_tickGoes 22 rfl) lV_Mo_285 rfl rfl rfl (Nat.le_of_ble_eq_true rfl) (by decide) (k_Mo_voltsGo hk6) ?_
    refine pw_iinc (q := 1) (v := (v1 + 1)) (L' := [(1, .inl (v1 + 1)), (0, .inr (some (0, 0, 0)))]) (px_at td_Mo_tickGoes 23 rfl) rfl rfl (by decide) rfl ?_
    refine pw_goto 26 (px_at td_Mo_tickGoes 24 rfl) (by decide) ?_
    refine pw_L [(0, .inr (some (0, 0, 0))), (1, .inl (v1 + 1))] [1, 0] rfl ?_
    exact hC ((v1 + 1), σ6) (Option.some.inj h).symm
def Mo_tickGoes_L26  : (Int32 × pxS) → Option ((Int32 × pxS) ⊕ (pxS)) := fun s => Mo_tickGoes_n26 s.2 s.1
set_option maxRecDepth 100000 in
theorem Mo_tickGoes_L26_l {l : Launch} {ids : List pxI} {Rt : Option pxV → List pxI → pxG → pxS → Prop}  {n : Nat} {s : Int32 × pxS} {e : pxS} (h : px_it (Mo_tickGoes_L26 ) n s = some e) (hX0 : pw l (px_R 8) y_Mo_tickGoes c_Mo_tickGoes 3 none 45 [(0, .inr (some (0, 0, 0)))] [] ids mG e 0 0 Rt) : pw l (px_R 8) y_Mo_tickGoes c_Mo_tickGoes 3 none 26 [(0, .inr (some (0, 0, 0))), (1, .inl s.1)] [] ids mG s.2 0 0 Rt := by
  refine px_it_rule (f := Mo_tickGoes_L26 ) (C := fun s => pw l (px_R 8) y_Mo_tickGoes c_Mo_tickGoes 3 none 26 [(0, .inr (some (0, 0, 0))), (1, .inl s.1)] [] ids mG s.2 0 0 Rt) (X := fun e => (pw l (px_R 8) y_Mo_tickGoes c_Mo_tickGoes 3 none 45 [(0, .inr (some (0, 0, 0)))] [] ids mG e 0 0 Rt)) ?_ ?_ n s e h hX0
  · intro s s1 hf hC
    exact Mo_tickGoes_n26_l hf (fun s2 hs => by cases hs; exact hC) (fun e he => by cases he)
  · intro s e hf hX
    exact Mo_tickGoes_n26_l hf (fun s2 hs => by cases hs) (fun e1 he => by cases he; exact hX)
def Mo_tickGoes_n110 (σ : pxS) (v1 : Int32) : Option ((Int32 × pxS) ⊕ (pxS)) :=
  some (.inl ((v1 + 1), σ))
set_option maxRecDepth 100000 in
theorem Mo_tickGoes_n110_l {l : Launch} {ids : List pxI} {Rt : Option pxV → List pxI → pxG → pxS → Prop} {σ : pxS} {v1 : Int32} {o : (Int32 × pxS) ⊕ (pxS)} (h : Mo_tickGoes_n110 σ v1 = some o) (hC : ∀ s, o = .inl s → pw l (px_R 8) y_Mo_tickGoes c_Mo_tickGoes 3 none 51 [(0, .inr (some (0, 0, 0))), (1, .inl s.1)] [] ids mG s.2 0 0 Rt) (hX0 : ∀ e, o = .inr e → pw l (px_R 8) y_Mo_tickGoes c_Mo_tickGoes 3 none 116 [(0, .inr (some (0, 0, 0)))] [] ids mG e 0 0 Rt) : pw l (px_R 8) y_Mo_tickGoes c_Mo_tickGoes 3 none 110 [(0, .inr (some (0, 0, 0))), (1, .inl v1)] [] ids mG σ 0 0 Rt := by
  unfold Mo_tickGoes_n110 at h
  refine pw_iinc (q := 1) (v := (v1 + 1)) (L' := [(1, .inl (v1 + 1)), (0, .inr (some (0, 0, 0)))]) (px_at td_Mo_tickGoes 63 rfl) rfl rfl (by decide) rfl ?_
  refine pw_goto 51 (px_at td_Mo_tickGoes 64 rfl) (by decide) ?_
  refine pw_L [(0, .inr (some (0, 0, 0))), (1, .inl (v1 + 1))] [1, 0] rfl ?_
  exact hC ((v1 + 1), σ) (Option.some.inj h).symm
def Mo_tickGoes_n51 (σ : pxS) (v1 : Int32) : Option ((Int32 × pxS) ⊕ (pxS)) :=
  px_b1 (F_Mo_rails σ ) fun r10 =>
  (if r10 ≤ v1 then some (.inr σ) else px_b1 (F_Mo_state σ v1) fun r11 =>
  (if r11 = 3 then px_gd ((13 * v1) + 9) 308 ((if (σ (1, 28, 0) ((13 * v1) + 9).toNatClampNeg) < (σ (1, 3, 0) 8) then Mo_tickGoes_n110 σ v1 else px_gd ((13 * v1) + 8) 308 ((if (σ (1, 28, 0) ((13 * v1) + 8).toNatClampNeg) = 0 then px_b1 (F_Mo_trips σ v1) fun σ14 =>
  Mo_tickGoes_n110 σ14 v1 else Mo_tickGoes_n110 σ v1)))) else Mo_tickGoes_n110 σ v1))
set_option maxRecDepth 100000 in
theorem Mo_tickGoes_n51_l {l : Launch} {ids : List pxI} {Rt : Option pxV → List pxI → pxG → pxS → Prop} {σ : pxS} {v1 : Int32} {o : (Int32 × pxS) ⊕ (pxS)} (h : Mo_tickGoes_n51 σ v1 = some o) (hC : ∀ s, o = .inl s → pw l (px_R 8) y_Mo_tickGoes c_Mo_tickGoes 3 none 51 [(0, .inr (some (0, 0, 0))), (1, .inl s.1)] [] ids mG s.2 0 0 Rt) (hX0 : ∀ e, o = .inr e → pw l (px_R 8) y_Mo_tickGoes c_Mo_tickGoes 3 none 116 [(0, .inr (some (0, 0, 0)))] [] ids mG e 0 0 Rt) : pw l (px_R 8) y_Mo_tickGoes c_Mo_tickGoes 3 none 51 [(0, .inr (some (0, 0, 0))), (1, .inl v1)] [] ids mG σ 0 0 Rt := by
  unfold Mo_tickGoes_n51 at h
  refine pw_iload_n 1 (px_at td_Mo_tickGoes 29 rfl) rfl rfl ?_
  refine pw_aload_n 0 (px_at td_Mo_tickGoes 30 rfl) rfl rfl ?_
  obtain ⟨r10, hk10, h⟩ := px_b1_e h
  refine pw_cV1 (0, 0, 0) [] [.inl v1] (px_at td_Mo_tickGoes 31 rfl) lV_Mo_223 rfl rfl rfl (Nat.le_of_ble_eq_true rfl) (by decide) (k_Mo_rails hk10) ?_
  rcases px_ite h with ⟨hc18, h⟩ | ⟨hc18, h⟩
  · refine pw_icmp_ge 116 (px_at td_Mo_tickGoes 32 rfl) (by decide) (fun _ => ?_) (fun hn => absurd hc18 hn)
    refine pw_L [(0, .inr (some (0, 0, 0)))] [0] rfl ?_
    exact hX0 σ (Option.some.inj h).symm
  · refine pw_icmp_ge 116 (px_at td_Mo_tickGoes 32 rfl) (by decide) (fun hn => absurd hn hc18) (fun _ => ?_)
    refine pw_aload_n 0 (px_at td_Mo_tickGoes 33 rfl) rfl rfl ?_
    refine pw_iload_n 1 (px_at td_Mo_tickGoes 34 rfl) rfl rfl ?_
    obtain ⟨r11, hk11, h⟩ := px_b1_e h
    refine pw_cV1 (0, 0, 0) [.inl v1] [] (px_at td_Mo_tickGoes 35 rfl) lV_Mo_230 rfl rfl rfl (Nat.le_of_ble_eq_true rfl) (by decide) (k_Mo_state hk11) ?_
    refine pw_iconst (v := 3) (px_at td_Mo_tickGoes 36 rfl) (by decide) ?_
    rcases px_ite h with ⟨hc17, h⟩ | ⟨hc17, h⟩
    · refine pw_icmp_ne 110 (px_at td_Mo_tickGoes 37 rfl) (by decide) (fun hn => absurd hc17 hn) (fun _ => ?_)
      refine pw_aload_n 0 (px_at td_Mo_tickGoes 38 rfl) rfl rfl ?_
      refine pw_getf (v := .inr (some (1, 28, 0))) (px_at td_Mo_tickGoes 39 rfl) lf_Mo_63 rfl rfl rfl ?_
      refine pw_bipush (v := 13) (px_at td_Mo_tickGoes 40 rfl) (by decide) ?_
      refine pw_iload_n 1 (px_at td_Mo_tickGoes 41 rfl) rfl rfl ?_
      refine pw_imul (px_at td_Mo_tickGoes 42 rfl) ?_
      refine pw_bipush (v := 9) (px_at td_Mo_tickGoes 43 rfl) (by decide) ?_
      refine pw_iadd (px_at td_Mo_tickGoes 44 rfl) ?_
      obtain ⟨hi12, h⟩ := px_gd_e h
      refine pw_ial (px_at td_Mo_tickGoes 45 rfl) rfl hi12 rfl ?_
      refine pw_aload_n 0 (px_at td_Mo_tickGoes 46 rfl) rfl rfl ?_
      refine pw_getf (v := .inr (some (1, 3, 0))) (px_at td_Mo_tickGoes 47 rfl) lf_Mo_13 rfl rfl rfl ?_
      refine pw_bipush (v := 8) (px_at td_Mo_tickGoes 48 rfl) (by decide) ?_
      refine pw_ial (px_at td_Mo_tickGoes 49 rfl) rfl (px_inL (by decide) px_z8 (by decide)) px_z8 ?_
      rcases px_ite h with ⟨hc16, h⟩ | ⟨hc16, h⟩
      · refine pw_icmp_lt 110 (px_at td_Mo_tickGoes 50 rfl) (by decide) (fun _ => ?_) (fun hn => absurd hc16 hn)
        exact Mo_tickGoes_n110_l h hC hX0
      · refine pw_icmp_lt 110 (px_at td_Mo_tickGoes 50 rfl) (by decide) (fun hn => absurd hn hc16) (fun _ => ?_)
        refine pw_aload_n 0 (px_at td_Mo_tickGoes 51 rfl) rfl rfl ?_
        refine pw_getf (v := .inr (some (1, 28, 0))) (px_at td_Mo_tickGoes 52 rfl) lf_Mo_63 rfl rfl rfl ?_
        refine pw_bipush (v := 13) (px_at td_Mo_tickGoes 53 rfl) (by decide) ?_
        refine pw_iload_n 1 (px_at td_Mo_tickGoes 54 rfl) rfl rfl ?_
        refine pw_imul (px_at td_Mo_tickGoes 55 rfl) ?_
        refine pw_bipush (v := 8) (px_at td_Mo_tickGoes 56 rfl) (by decide) ?_
        refine pw_iadd (px_at td_Mo_tickGoes 57 rfl) ?_
        obtain ⟨hi13, h⟩ := px_gd_e h
        refine pw_ial (px_at td_Mo_tickGoes 58 rfl) rfl hi13 rfl ?_
        rcases px_ite h with ⟨hc15, h⟩ | ⟨hc15, h⟩
        · refine pw_if_ne 110 (px_at td_Mo_tickGoes 59 rfl) (by decide) (fun hn => absurd hc15 hn) (fun _ => ?_)
          refine pw_aload_n 0 (px_at td_Mo_tickGoes 60 rfl) rfl rfl ?_
          refine pw_iload_n 1 (px_at td_Mo_tickGoes 61 rfl) rfl rfl ?_
          obtain ⟨σ14, hk14, h⟩ := px_b1_e h
          refine pw_cV0 (0, 0, 0) [.inl v1] [] (px_at td_Mo_tickGoes 62 rfl) lV_Mo_291 rfl rfl rfl (Nat.le_of_ble_eq_true rfl) (by decide) (k_Mo_trips hk14) ?_
          exact Mo_tickGoes_n110_l h hC hX0
        · refine pw_if_ne 110 (px_at td_Mo_tickGoes 59 rfl) (by decide) (fun _ => ?_) (fun hn => absurd hn hc15)
          exact Mo_tickGoes_n110_l h hC hX0
    · refine pw_icmp_ne 110 (px_at td_Mo_tickGoes 37 rfl) (by decide) (fun _ => ?_) (fun hn => absurd hn hc17)
      exact Mo_tickGoes_n110_l h hC hX0
def Mo_tickGoes_L51  : (Int32 × pxS) → Option ((Int32 × pxS) ⊕ (pxS)) := fun s => Mo_tickGoes_n51 s.2 s.1
set_option maxRecDepth 100000 in
theorem Mo_tickGoes_L51_l {l : Launch} {ids : List pxI} {Rt : Option pxV → List pxI → pxG → pxS → Prop}  {n : Nat} {s : Int32 × pxS} {e : pxS} (h : px_it (Mo_tickGoes_L51 ) n s = some e) (hX0 : pw l (px_R 8) y_Mo_tickGoes c_Mo_tickGoes 3 none 116 [(0, .inr (some (0, 0, 0)))] [] ids mG e 0 0 Rt) : pw l (px_R 8) y_Mo_tickGoes c_Mo_tickGoes 3 none 51 [(0, .inr (some (0, 0, 0))), (1, .inl s.1)] [] ids mG s.2 0 0 Rt := by
  refine px_it_rule (f := Mo_tickGoes_L51 ) (C := fun s => pw l (px_R 8) y_Mo_tickGoes c_Mo_tickGoes 3 none 51 [(0, .inr (some (0, 0, 0))), (1, .inl s.1)] [] ids mG s.2 0 0 Rt) (X := fun e => (pw l (px_R 8) y_Mo_tickGoes c_Mo_tickGoes 3 none 116 [(0, .inr (some (0, 0, 0)))] [] ids mG e 0 0 Rt)) ?_ ?_ n s e h hX0
  · intro s s1 hf hC
    exact Mo_tickGoes_n51_l hf (fun s2 hs => by cases hs; exact hC) (fun e he => by cases he)
  · intro s e hf hX
    exact Mo_tickGoes_n51_l hf (fun s2 hs => by cases hs) (fun e1 he => by cases he; exact hX)
def Mo_tickGoes_n161 (σ : pxS)  : Option (pxS) :=
  (if (σ (1, 28, 0) 169) = 0 then some σ else px_b1 (F_Mo_goesOut σ 169 (σ (1, 28, 0) 170)) fun σ20 =>
  px_gd ((13 * (σ (1, 28, 0) 170)) + 8) 308 (px_l (px_up σ20 (1, 28, 0) ((13 * (σ (1, 28, 0) 170)) + 8).toNatClampNeg 0) fun σ22 =>
  px_b1 (F_Mo_state_ σ22 (σ (1, 28, 0) 170) 4) fun σ23 =>
  px_b1 (F_Mo_logs σ23 (σ (1, 28, 0) 170) 3) fun σ24 =>
  some σ24))
set_option maxRecDepth 100000 in
theorem Mo_tickGoes_n161_l {l : Launch} {ids : List pxI} {Rt : Option pxV → List pxI → pxG → pxS → Prop} {σ : pxS}  {res : pxS} (h : Mo_tickGoes_n161 σ  = some res) (hR : Rt none ids mG res) : pw l (px_R 8) y_Mo_tickGoes c_Mo_tickGoes 3 none 161 [(0, .inr (some (0, 0, 0)))] [] ids mG σ 0 0 Rt := by
  unfold Mo_tickGoes_n161 at h
  refine pw_aload_n 0 (px_at td_Mo_tickGoes 91 rfl) rfl rfl ?_
  refine pw_getf (v := .inr (some (1, 28, 0))) (px_at td_Mo_tickGoes 92 rfl) lf_Mo_63 rfl rfl rfl ?_
  refine pw_sipush (v := 169) (px_at td_Mo_tickGoes 93 rfl) (by decide) ?_
  refine pw_ial (px_at td_Mo_tickGoes 94 rfl) rfl (px_inL (by decide) px_z169 (by decide)) px_z169 ?_
  rcases px_ite h with ⟨hc25, h⟩ | ⟨hc25, h⟩
  · refine pw_if_ne 173 (px_at td_Mo_tickGoes 95 rfl) (by decide) (fun hn => absurd hc25 hn) (fun _ => ?_)
    obtain rfl := Option.some.inj h
    exact pw_vret (px_at td_Mo_tickGoes 96 rfl) rfl (Nat.le_refl 0) (Nat.le_refl 0) hR
  · refine pw_if_ne 173 (px_at td_Mo_tickGoes 95 rfl) (by decide) (fun _ => ?_) (fun hn => absurd hn hc25)
    refine pw_aload_n 0 (px_at td_Mo_tickGoes 97 rfl) rfl rfl ?_
    refine pw_getf (v := .inr (some (1, 28, 0))) (px_at td_Mo_tickGoes 98 rfl) lf_Mo_63 rfl rfl rfl ?_
    refine pw_sipush (v := 170) (px_at td_Mo_tickGoes 99 rfl) (by decide) ?_
    refine pw_ial (px_at td_Mo_tickGoes 100 rfl) rfl (px_inL (by decide) px_z170 (by decide)) px_z170 ?_
    refine pw_istore_n (L' := [(2, .inl (σ (1, 28, 0) 170)), (0, .inr (some (0, 0, 0)))]) (px_at td_Mo_tickGoes 101 rfl) rfl (by decide) rfl ?_
    refine pw_aload_n 1 (px_at td_Mo_tickGoes 102 rfl) rfl rfl ?_
    refine pw_sipush (v := 169) (px_at td_Mo_tickGoes 103 rfl) (by decide) ?_
    refine pw_iload_n 0 (px_at td_Mo_tickGoes 104 rfl) rfl rfl ?_
    obtain ⟨σ20, hk20, h⟩ := px_b1_e h
    refine pw_cV0 (0, 0, 0) [.inl 169, .inl (σ (1, 28, 0) 170)] [] (px_at td_Mo_tickGoes 105 rfl) lV_Mo_238 rfl rfl rfl (Nat.le_of_ble_eq_true rfl) (by decide) (k_Mo_goesOut hk20) ?_
    refine pw_aload_n 1 (px_at td_Mo_tickGoes 106 rfl) rfl rfl ?_
    refine pw_getf (v := .inr (some (1, 28, 0))) (px_at td_Mo_tickGoes 107 rfl) lf_Mo_63 rfl rfl rfl ?_
    refine pw_bipush (v := 13) (px_at td_Mo_tickGoes 108 rfl) (by decide) ?_
    refine pw_iload_n 0 (px_at td_Mo_tickGoes 109 rfl) rfl rfl ?_
    refine pw_imul (px_at td_Mo_tickGoes 110 rfl) ?_
    refine pw_bipush (v := 8) (px_at td_Mo_tickGoes 111 rfl) (by decide) ?_
    refine pw_iadd (px_at td_Mo_tickGoes 112 rfl) ?_
    refine pw_iconst (v := 0) (px_at td_Mo_tickGoes 113 rfl) (by decide) ?_
    obtain ⟨hi21, h⟩ := px_gd_e h
    obtain ⟨σ22, hσ22, h⟩ := px_l_e h
    refine pw_ias (px_at td_Mo_tickGoes 114 rfl) rfl hi21 rfl hσ22 ?_
    refine pw_aload_n 1 (px_at td_Mo_tickGoes 115 rfl) rfl rfl ?_
    refine pw_iload_n 0 (px_at td_Mo_tickGoes 116 rfl) rfl rfl ?_
    refine pw_iconst (v := 4) (px_at td_Mo_tickGoes 117 rfl) (by decide) ?_
    obtain ⟨σ23, hk23, h⟩ := px_b1_e h
    refine pw_cV0 (0, 0, 0) [.inl (σ (1, 28, 0) 170), .inl 4] [] (px_at td_Mo_tickGoes 118 rfl) lV_Mo_236 rfl rfl rfl (Nat.le_of_ble_eq_true rfl) (by decide) (k_Mo_state_ hk23) ?_
    refine pw_aload_n 1 (px_at td_Mo_tickGoes 119 rfl) rfl rfl ?_
    refine pw_iload_n 0 (px_at td_Mo_tickGoes 120 rfl) rfl rfl ?_
    refine pw_iconst (v := 3) (px_at td_Mo_tickGoes 121 rfl) (by decide) ?_
    obtain ⟨σ24, hk24, h⟩ := px_b1_e h
    refine pw_cV0 (0, 0, 0) [.inl (σ (1, 28, 0) 170), .inl 3] [] (px_at td_Mo_tickGoes 122 rfl) lV_Mo_256 rfl rfl rfl (Nat.le_of_ble_eq_true rfl) (by decide) (k_Mo_logs hk24) ?_
    obtain rfl := Option.some.inj h
    exact pw_vret (px_at td_Mo_tickGoes 123 rfl) rfl (Nat.le_refl 0) (Nat.le_refl 0) hR
def F_Mo_tickGoes (σ : pxS)  : Option (pxS) :=
  px_l (px_up σ (1, 28, 0) 182 ((σ (1, 28, 0) 182) + 1)) fun σ1 =>
  px_b1 (F_Mo_comeAgain σ1 ) fun σ2 =>
  px_b1 (F_Mo_sequenceGoes σ2 ) fun σ3 =>
  px_b1 (F_Mo_beginsToRise σ3 ) fun σ4 =>
  px_b1 (px_it (Mo_tickGoes_L26 ) px_N (0, σ4)) fun e8 =>
  px_b1 (F_Mo_draws e8 ) fun σ9 =>
  px_b1 (px_it (Mo_tickGoes_L51 ) px_N (0, σ9)) fun e19 =>
  (if (e19 (1, 28, 0) 186) ≤ (e19 (1, 3, 0) 6) then Mo_tickGoes_n161 e19  else px_b1 (F_Mo_rails e19 ) fun r26 =>
  px_b1 (F_Mo_latestOf e19 ((1 <<< (r26 &&& 31)) - 1)) fun r27 =>
  (if r27 = (-1) then Mo_tickGoes_n161 e19  else px_b1 (F_Mo_trips e19 r27) fun σ28 =>
  Mo_tickGoes_n161 σ28 ))
set_option maxRecDepth 100000 in
theorem e_Mo_tickGoes {l : Launch} {ids : List pxI} {Rt : Option pxV → List pxI → pxG → pxS → Prop} {σ : pxS}  {res : pxS} (h : F_Mo_tickGoes σ  = some res) (hR : Rt none ids mG res) : pw l (px_R 8) y_Mo_tickGoes c_Mo_tickGoes 3 none 0 [(0, .inr (some (0, 0, 0)))] [] ids mG σ 0 0 Rt := by
  unfold F_Mo_tickGoes at h
  refine pw_aload_n 0 (px_at td_Mo_tickGoes 0 rfl) rfl rfl ?_
  refine pw_getf (v := .inr (some (1, 28, 0))) (px_at td_Mo_tickGoes 1 rfl) lf_Mo_63 rfl rfl rfl ?_
  refine pw_sipush (v := 182) (px_at td_Mo_tickGoes 2 rfl) (by decide) ?_
  refine pw_dup2 (px_at td_Mo_tickGoes 3 rfl) ?_
  refine pw_ial (px_at td_Mo_tickGoes 4 rfl) rfl (px_inL (by decide) px_z182 (by decide)) px_z182 ?_
  refine pw_iconst (v := 1) (px_at td_Mo_tickGoes 5 rfl) (by decide) ?_
  refine pw_iadd (px_at td_Mo_tickGoes 6 rfl) ?_
  obtain ⟨σ1, hσ1, h⟩ := px_l_e h
  refine pw_ias (px_at td_Mo_tickGoes 7 rfl) rfl (px_inL (by decide) px_z182 (by decide)) px_z182 hσ1 ?_
  refine pw_aload_n 0 (px_at td_Mo_tickGoes 8 rfl) rfl rfl ?_
  obtain ⟨σ2, hk2, h⟩ := px_b1_e h
  refine pw_cV0 (0, 0, 0) [] [] (px_at td_Mo_tickGoes 9 rfl) lV_Mo_276 rfl rfl rfl (Nat.le_of_ble_eq_true rfl) (by decide) (k_Mo_comeAgain hk2) ?_
  refine pw_aload_n 0 (px_at td_Mo_tickGoes 10 rfl) rfl rfl ?_
  obtain ⟨σ3, hk3, h⟩ := px_b1_e h
  refine pw_cV0 (0, 0, 0) [] [] (px_at td_Mo_tickGoes 11 rfl) lV_Mo_279 rfl rfl rfl (Nat.le_of_ble_eq_true rfl) (by decide) (k_Mo_sequenceGoes hk3) ?_
  refine pw_aload_n 0 (px_at td_Mo_tickGoes 12 rfl) rfl rfl ?_
  obtain ⟨σ4, hk4, h⟩ := px_b1_e h
  refine pw_cV0 (0, 0, 0) [] [] (px_at td_Mo_tickGoes 13 rfl) lV_Mo_282 rfl rfl rfl (Nat.le_of_ble_eq_true rfl) (by decide) (k_Mo_beginsToRise hk4) ?_
  refine pw_iconst (v := 0) (px_at td_Mo_tickGoes 14 rfl) (by decide) ?_
  refine pw_istore_n (L' := [(1, .inl 0), (0, .inr (some (0, 0, 0)))]) (px_at td_Mo_tickGoes 15 rfl) rfl (by decide) rfl ?_
  obtain ⟨e8, he8, h⟩ := px_b1_e h
  refine pw_L [(0, .inr (some (0, 0, 0))), (1, .inl 0)] [1, 0] rfl ?_
  refine Mo_tickGoes_L26_l he8 ?_
  refine pw_aload_n 0 (px_at td_Mo_tickGoes 25 rfl) rfl rfl ?_
  obtain ⟨σ9, hk9, h⟩ := px_b1_e h
  refine pw_cV0 (0, 0, 0) [] [] (px_at td_Mo_tickGoes 26 rfl) lV_Mo_288 rfl rfl rfl (Nat.le_of_ble_eq_true rfl) (by decide) (k_Mo_draws hk9) ?_
  refine pw_iconst (v := 0) (px_at td_Mo_tickGoes 27 rfl) (by decide) ?_
  refine pw_istore_n (L' := [(1, .inl 0), (0, .inr (some (0, 0, 0)))]) (px_at td_Mo_tickGoes 28 rfl) rfl (by decide) rfl ?_
  obtain ⟨e19, he19, h⟩ := px_b1_e h
  refine pw_L [(0, .inr (some (0, 0, 0))), (1, .inl 0)] [1, 0] rfl ?_
  refine Mo_tickGoes_L51_l he19 ?_
  refine pw_aload_n 0 (px_at td_Mo_tickGoes 65 rfl) rfl rfl ?_
  refine pw_getf (v := .inr (some (1, 28, 0))) (px_at td_Mo_tickGoes 66 rfl) lf_Mo_63 rfl rfl rfl ?_
  refine pw_sipush (v := 186) (px_at td_Mo_tickGoes 67 rfl) (by decide) ?_
  refine pw_ial (px_at td_Mo_tickGoes 68 rfl) rfl (px_inL (by decide) px_z186 (by decide)) px_z186 ?_
  refine pw_aload_n 0 (px_at td_Mo_tickGoes 69 rfl) rfl rfl ?_
  refine pw_getf (v := .inr (some (1, 3, 0))) (px_at td_Mo_tickGoes 70 rfl) lf_Mo_13 rfl rfl rfl ?_
  refine pw_bipush (v := 6) (px_at td_Mo_tickGoes 71 rfl) (by decide) ?_
  refine pw_ial (px_at td_Mo_tickGoes 72 rfl) rfl (px_inL (by decide) px_z6 (by decide)) px_z6 ?_
  rcases px_ite h with ⟨hc30, h⟩ | ⟨hc30, h⟩
  · refine pw_icmp_le 149 (px_at td_Mo_tickGoes 73 rfl) (by decide) (fun _ => ?_) (fun hn => absurd hc30 hn)
    refine pw_iconst (v := (-1)) (px_at td_Mo_tickGoes 83 rfl) (by decide) ?_
    refine pw_istore_n (L' := [(1, .inl (-1)), (0, .inr (some (0, 0, 0)))]) (px_at td_Mo_tickGoes 84 rfl) rfl (by decide) rfl ?_
    refine pw_iload_n 0 (px_at td_Mo_tickGoes 85 rfl) rfl rfl ?_
    refine pw_iconst (v := (-1)) (px_at td_Mo_tickGoes 86 rfl) (by decide) ?_
    refine pw_icmp_eq 161 (px_at td_Mo_tickGoes 87 rfl) (by decide) (fun hn => ?_) (fun hn => absurd hn (by decide))
    refine pw_L [(0, .inr (some (0, 0, 0)))] [1] rfl ?_
    exact Mo_tickGoes_n161_l h hR
  · refine pw_icmp_le 149 (px_at td_Mo_tickGoes 73 rfl) (by decide) (fun hn => absurd hn hc30) (fun _ => ?_)
    refine pw_aload_n 0 (px_at td_Mo_tickGoes 74 rfl) rfl rfl ?_
    refine pw_iconst (v := 1) (px_at td_Mo_tickGoes 75 rfl) (by decide) ?_
    refine pw_aload_n 0 (px_at td_Mo_tickGoes 76 rfl) rfl rfl ?_
    obtain ⟨r26, hk26, h⟩ := px_b1_e h
    refine pw_cV1 (0, 0, 0) [] [.inl 1, .inr (some (0, 0, 0))] (px_at td_Mo_tickGoes 77 rfl) lV_Mo_223 rfl rfl rfl (Nat.le_of_ble_eq_true rfl) (by decide) (k_Mo_rails hk26) ?_
    refine pw_ishl (px_at td_Mo_tickGoes 78 rfl) ?_
    refine pw_iconst (v := 1) (px_at td_Mo_tickGoes 79 rfl) (by decide) ?_
    refine pw_isub (px_at td_Mo_tickGoes 80 rfl) ?_
    obtain ⟨r27, hk27, h⟩ := px_b1_e h
    refine pw_cV1 (0, 0, 0) [.inl ((1 <<< (r26 &&& 31)) - 1)] [] (px_at td_Mo_tickGoes 81 rfl) lV_Mo_241 rfl rfl rfl (Nat.le_of_ble_eq_true rfl) (by decide) (k_Mo_latestOf hk27) ?_
    refine pw_goto 150 (px_at td_Mo_tickGoes 82 rfl) (by decide) ?_
    refine pw_istore_n (L' := [(1, .inl r27), (0, .inr (some (0, 0, 0)))]) (px_at td_Mo_tickGoes 84 rfl) rfl (by decide) rfl ?_
    refine pw_iload_n 0 (px_at td_Mo_tickGoes 85 rfl) rfl rfl ?_
    refine pw_iconst (v := (-1)) (px_at td_Mo_tickGoes 86 rfl) (by decide) ?_
    rcases px_ite h with ⟨hc29, h⟩ | ⟨hc29, h⟩
    · refine pw_icmp_eq 161 (px_at td_Mo_tickGoes 87 rfl) (by decide) (fun _ => ?_) (fun hn => absurd hc29 hn)
      refine pw_L [(0, .inr (some (0, 0, 0)))] [1] rfl ?_
      exact Mo_tickGoes_n161_l h hR
    · refine pw_icmp_eq 161 (px_at td_Mo_tickGoes 87 rfl) (by decide) (fun hn => absurd hn hc29) (fun _ => ?_)
      refine pw_aload_n 1 (px_at td_Mo_tickGoes 88 rfl) rfl rfl ?_
      refine pw_iload_n 0 (px_at td_Mo_tickGoes 89 rfl) rfl rfl ?_
      obtain ⟨σ28, hk28, h⟩ := px_b1_e h
      refine pw_cV0 (0, 0, 0) [.inl r27] [] (px_at td_Mo_tickGoes 90 rfl) lV_Mo_291 rfl rfl rfl (Nat.le_of_ble_eq_true rfl) (by decide) (k_Mo_trips hk28) ?_
      refine pw_L [(0, .inr (some (0, 0, 0)))] [1] rfl ?_
      exact Mo_tickGoes_n161_l h hR
theorem k_Mo_tickGoes {l : Launch} {ids : List pxI} {σ : pxS}  {res : pxS} (h : F_Mo_tickGoes σ  = some res) : pm l y_Mo_tickGoes c_Mo_tickGoes 3 none (px_R 8) [.inr (some (0, 0, 0))] ids mG σ (px_r none ids mG res) :=
  pm_ofF (by decide +kernel) (Nat.le_of_ble_eq_true rfl) (e_Mo_tickGoes h ⟨rfl, rfl, rfl, rfl⟩)
/-! Mo_tick -/
def Mo_tick_n16 (σ : pxS)  : Option (Int32 × pxS) :=
  some ((-1), σ)
set_option maxRecDepth 100000 in
theorem Mo_tick_n16_l {l : Launch} {ids : List pxI} {Rt : Option pxV → List pxI → pxG → pxS → Prop} {σ : pxS}  {res : Int32 × pxS} (h : Mo_tick_n16 σ  = some res) (hR : Rt (some (.inl res.1)) ids mG res.2) : pw l (px_R 9) y_Mo_tick c_Mo_tick 3 (some .int) 16 [] [] ids mG σ 0 0 Rt := by
  unfold Mo_tick_n16 at h
  refine pw_iconst (v := (-1)) (px_at td_Mo_tick 9 rfl) (by decide) ?_
  obtain rfl := Option.some.inj h
  exact pw_iret (px_at td_Mo_tick 10 rfl) rfl (Nat.le_refl 0) (Nat.le_refl 0) hR
def Mo_tick_n43 (σ : pxS) (v1 : Int32) (v2 : Int32) : Option ((Int32 × pxS) ⊕ (pxS)) :=
  (if v1 ≤ v2 then some (.inr σ) else px_b1 (F_Mo_tickGoes σ ) fun σ3 =>
  some (.inl ((v2 + 1), σ3)))
set_option maxRecDepth 100000 in
theorem Mo_tick_n43_l {l : Launch} {ids : List pxI} {Rt : Option pxV → List pxI → pxG → pxS → Prop} {σ : pxS} {v1 : Int32} {v2 : Int32} {o : (Int32 × pxS) ⊕ (pxS)} (h : Mo_tick_n43 σ v1 v2 = some o) (hC : ∀ s, o = .inl s → pw l (px_R 9) y_Mo_tick c_Mo_tick 3 (some .int) 43 [(0, .inr (some (0, 0, 0))), (1, .inl v1), (2, .inl s.1)] [] ids mG s.2 0 0 Rt) (hX0 : ∀ e, o = .inr e → pw l (px_R 9) y_Mo_tick c_Mo_tick 3 (some .int) 58 [(0, .inr (some (0, 0, 0)))] [] ids mG e 0 0 Rt) : pw l (px_R 9) y_Mo_tick c_Mo_tick 3 (some .int) 43 [(0, .inr (some (0, 0, 0))), (1, .inl v1), (2, .inl v2)] [] ids mG σ 0 0 Rt := by
  unfold Mo_tick_n43 at h
  refine pw_iload_n 2 (px_at td_Mo_tick 25 rfl) rfl rfl ?_
  refine pw_iload_n 1 (px_at td_Mo_tick 26 rfl) rfl rfl ?_
  rcases px_ite h with ⟨hc4, h⟩ | ⟨hc4, h⟩
  · refine pw_icmp_ge 58 (px_at td_Mo_tick 27 rfl) (by decide) (fun _ => ?_) (fun hn => absurd hc4 hn)
    refine pw_L [(0, .inr (some (0, 0, 0)))] [0] rfl ?_
    exact hX0 σ (Option.some.inj h).symm
  · refine pw_icmp_ge 58 (px_at td_Mo_tick 27 rfl) (by decide) (fun hn => absurd hn hc4) (fun _ => ?_)
    refine pw_aload_n 0 (px_at td_Mo_tick 28 rfl) rfl rfl ?_
    obtain ⟨σ3, hk3, h⟩ := px_b1_e h
    refine pw_cV0 (0, 0, 0) [] [] (px_at td_Mo_tick 29 rfl) lV_Mo_297 rfl rfl rfl (Nat.le_of_ble_eq_true rfl) (by decide) (k_Mo_tickGoes hk3) ?_
    refine pw_iinc (q := 2) (v := (v2 + 1)) (L' := [(2, .inl (v2 + 1)), (0, .inr (some (0, 0, 0))), (1, .inl v1)]) (px_at td_Mo_tick 30 rfl) rfl rfl (by decide) rfl ?_
    refine pw_goto 43 (px_at td_Mo_tick 31 rfl) (by decide) ?_
    refine pw_L [(0, .inr (some (0, 0, 0))), (1, .inl v1), (2, .inl (v2 + 1))] [1, 2, 0] rfl ?_
    exact hC ((v2 + 1), σ3) (Option.some.inj h).symm
def Mo_tick_L43 (v1 : Int32) : (Int32 × pxS) → Option ((Int32 × pxS) ⊕ (pxS)) := fun s => Mo_tick_n43 s.2 v1 s.1
set_option maxRecDepth 100000 in
theorem Mo_tick_L43_l {l : Launch} {ids : List pxI} {Rt : Option pxV → List pxI → pxG → pxS → Prop} {v1 : Int32} {n : Nat} {s : Int32 × pxS} {e : pxS} (h : px_it (Mo_tick_L43 v1) n s = some e) (hX0 : pw l (px_R 9) y_Mo_tick c_Mo_tick 3 (some .int) 58 [(0, .inr (some (0, 0, 0)))] [] ids mG e 0 0 Rt) : pw l (px_R 9) y_Mo_tick c_Mo_tick 3 (some .int) 43 [(0, .inr (some (0, 0, 0))), (1, .inl v1), (2, .inl s.1)] [] ids mG s.2 0 0 Rt := by
  refine px_it_rule (f := Mo_tick_L43 v1) (C := fun s => pw l (px_R 9) y_Mo_tick c_Mo_tick 3 (some .int) 43 [(0, .inr (some (0, 0, 0))), (1, .inl v1), (2, .inl s.1)] [] ids mG s.2 0 0 Rt) (X := fun e => (pw l (px_R 9) y_Mo_tick c_Mo_tick 3 (some .int) 58 [(0, .inr (some (0, 0, 0)))] [] ids mG e 0 0 Rt)) ?_ ?_ n s e h hX0
  · intro s s1 hf hC
    exact Mo_tick_n43_l hf (fun s2 hs => by cases hs; exact hC) (fun e he => by cases he)
  · intro s e hf hX
    exact Mo_tick_n43_l hf (fun s2 hs => by cases hs) (fun e1 he => by cases he; exact hX)
def F_Mo_tick (σ : pxS) (v1 : Int32) : Option (Int32 × pxS) :=
  px_l (px_up σ (0, 0, 0) 0 0) fun σ1 =>
  (if v1 < 1 then Mo_tick_n16 σ1  else (if v1 ≤ 50 then (if ((σ1 (1, 28, 0) 182) + v1) ≤ 9999 then px_b1 (F_Mo_remembers σ1 ) fun σ2 =>
  px_b1 (px_it (Mo_tick_L43 v1) px_N (0, σ2)) fun e5 =>
  some ((e5 (1, 28, 0) 182), e5) else some ((-2), σ1)) else Mo_tick_n16 σ1 ))
set_option maxRecDepth 100000 in
theorem e_Mo_tick {l : Launch} {ids : List pxI} {Rt : Option pxV → List pxI → pxG → pxS → Prop} {σ : pxS} {v1 : Int32} {res : Int32 × pxS} (h : F_Mo_tick σ v1 = some res) (hR : Rt (some (.inl res.1)) ids mG res.2) : pw l (px_R 9) y_Mo_tick c_Mo_tick 3 (some .int) 0 [(0, .inr (some (0, 0, 0))), (1, .inl v1)] [] ids mG σ 0 0 Rt := by
  unfold F_Mo_tick at h
  refine pw_aload_n 0 (px_at td_Mo_tick 0 rfl) rfl rfl ?_
  refine pw_iconst (v := 0) (px_at td_Mo_tick 1 rfl) (by decide) ?_
  obtain ⟨σ1, hσ1, h⟩ := px_l_e h
  refine pw_puti (px_at td_Mo_tick 2 rfl) lw_Mo_99 rfl rfl (pw_s hσ1 ?_)
  refine pw_iload_n 1 (px_at td_Mo_tick 3 rfl) rfl rfl ?_
  refine pw_iconst (v := 1) (px_at td_Mo_tick 4 rfl) (by decide) ?_
  rcases px_ite h with ⟨hc8, h⟩ | ⟨hc8, h⟩
  · refine pw_icmp_lt 16 (px_at td_Mo_tick 5 rfl) (by decide) (fun _ => ?_) (fun hn => absurd hc8 hn)
    refine pw_L [] [] rfl ?_
    exact Mo_tick_n16_l h hR
  · refine pw_icmp_lt 16 (px_at td_Mo_tick 5 rfl) (by decide) (fun hn => absurd hn hc8) (fun _ => ?_)
    refine pw_iload_n 1 (px_at td_Mo_tick 6 rfl) rfl rfl ?_
    refine pw_bipush (v := 50) (px_at td_Mo_tick 7 rfl) (by decide) ?_
    rcases px_ite h with ⟨hc7, h⟩ | ⟨hc7, h⟩
    · refine pw_icmp_le 18 (px_at td_Mo_tick 8 rfl) (by decide) (fun _ => ?_) (fun hn => absurd hc7 hn)
      refine pw_aload_n 0 (px_at td_Mo_tick 11 rfl) rfl rfl ?_
      refine pw_getf (v := .inr (some (1, 28, 0))) (px_at td_Mo_tick 12 rfl) lf_Mo_63 rfl rfl rfl ?_
      refine pw_sipush (v := 182) (px_at td_Mo_tick 13 rfl) (by decide) ?_
      refine pw_ial (px_at td_Mo_tick 14 rfl) rfl (px_inL (by decide) px_z182 (by decide)) px_z182 ?_
      refine pw_iload_n 1 (px_at td_Mo_tick 15 rfl) rfl rfl ?_
      refine pw_iadd (px_at td_Mo_tick 16 rfl) ?_
      refine pw_sipush (v := 9999) (px_at td_Mo_tick 17 rfl) (by decide) ?_
      rcases px_ite h with ⟨hc6, h⟩ | ⟨hc6, h⟩
      · refine pw_icmp_le 37 (px_at td_Mo_tick 18 rfl) (by decide) (fun _ => ?_) (fun hn => absurd hc6 hn)
        refine pw_aload_n 0 (px_at td_Mo_tick 21 rfl) rfl rfl ?_
        obtain ⟨σ2, hk2, h⟩ := px_b1_e h
        refine pw_cV0 (0, 0, 0) [] [] (px_at td_Mo_tick 22 rfl) lV_Mo_294 rfl rfl rfl (Nat.le_of_ble_eq_true rfl) (by decide) (k_Mo_remembers hk2) ?_
        refine pw_iconst (v := 0) (px_at td_Mo_tick 23 rfl) (by decide) ?_
        refine pw_istore_n (L' := [(2, .inl 0), (0, .inr (some (0, 0, 0))), (1, .inl v1)]) (px_at td_Mo_tick 24 rfl) rfl (by decide) rfl ?_
        obtain ⟨e5, he5, h⟩ := px_b1_e h
        refine pw_L [(0, .inr (some (0, 0, 0))), (1, .inl v1), (2, .inl 0)] [1, 2, 0] rfl ?_
        refine Mo_tick_L43_l he5 ?_
        refine pw_aload_n 0 (px_at td_Mo_tick 32 rfl) rfl rfl ?_
        refine pw_getf (v := .inr (some (1, 28, 0))) (px_at td_Mo_tick 33 rfl) lf_Mo_63 rfl rfl rfl ?_
        refine pw_sipush (v := 182) (px_at td_Mo_tick 34 rfl) (by decide) ?_
        refine pw_ial (px_at td_Mo_tick 35 rfl) rfl (px_inL (by decide) px_z182 (by decide)) px_z182 ?_
        obtain rfl := Option.some.inj h
        exact pw_iret (px_at td_Mo_tick 36 rfl) rfl (Nat.le_refl 0) (Nat.le_refl 0) hR
      · refine pw_icmp_le 37 (px_at td_Mo_tick 18 rfl) (by decide) (fun hn => absurd hn hc6) (fun _ => ?_)
        refine pw_bipush (v := (-2)) (px_at td_Mo_tick 19 rfl) (by decide) ?_
        obtain rfl := Option.some.inj h
        exact pw_iret (px_at td_Mo_tick 20 rfl) rfl (Nat.le_refl 0) (Nat.le_refl 0) hR
    · refine pw_icmp_le 18 (px_at td_Mo_tick 8 rfl) (by decide) (fun hn => absurd hn hc7) (fun _ => ?_)
      refine pw_L [] [] rfl ?_
      exact Mo_tick_n16_l h hR
theorem k_Mo_tick {l : Launch} {ids : List pxI} {σ : pxS} {v1 : Int32} {res : Int32 × pxS} (h : F_Mo_tick σ v1 = some res) : pm l y_Mo_tick c_Mo_tick 3 (some .int) (px_R 9) [.inr (some (0, 0, 0)), .inl v1] ids mG σ (px_r (some (.inl res.1)) ids mG res.2) :=
  pm_ofF (by decide +kernel) (Nat.le_of_ble_eq_true rfl) (e_Mo_tick h ⟨rfl, rfl, rfl, rfl⟩)
