/-! Mo_isRail -/
def Mo_isRail_n16 (σ : pxS)  : Option (Int32) :=
  some (0)
set_option maxRecDepth 100000 in
theorem Mo_isRail_n16_l {l : Launch} {ids : List pxI} {Rt : Option pxV → List pxI → pxG → pxS → Prop} {σ : pxS}  {res : Int32} (h : Mo_isRail_n16 σ  = some res) (hR : Rt (some (.inl res)) ids mG σ) : pw l (px_R 2) y_Mo_isRail c_Mo_isRail 2 (some .boolean) 16 [] [] ids mG σ 0 0 Rt := by
  unfold Mo_isRail_n16 at h
  refine pw_iconst (v := 0) (px_at td_Mo_isRail 8 rfl) (by decide) ?_
  obtain rfl := Option.some.inj h
  exact pw_zret (px_at td_Mo_isRail 9 rfl) rfl (by decide) (Nat.le_refl 0) (Nat.le_refl 0) hR
def F_Mo_isRail (σ : pxS) (v1 : Int32) : Option (Int32) :=
  (if v1 < 0 then Mo_isRail_n16 σ  else px_b1 (F_Mo_rails σ ) fun r1 =>
  (if r1 ≤ v1 then Mo_isRail_n16 σ  else some (1)))
set_option maxRecDepth 100000 in
theorem e_Mo_isRail {l : Launch} {ids : List pxI} {Rt : Option pxV → List pxI → pxG → pxS → Prop} {σ : pxS} {v1 : Int32} {res : Int32} (h : F_Mo_isRail σ v1 = some res) (hR : Rt (some (.inl res)) ids mG σ) : pw l (px_R 2) y_Mo_isRail c_Mo_isRail 2 (some .boolean) 0 [(0, .inr (some (0, 0, 0))), (1, .inl v1)] [] ids mG σ 0 0 Rt := by
  unfold F_Mo_isRail at h
  refine pw_iload_n 1 (px_at td_Mo_isRail 0 rfl) rfl rfl ?_
  rcases px_ite h with ⟨hc3, h⟩ | ⟨hc3, h⟩
  · refine pw_if_lt 16 (px_at td_Mo_isRail 1 rfl) (by decide) (fun _ => ?_) (fun hn => absurd hc3 hn)
    refine pw_L [] [] rfl ?_
    exact Mo_isRail_n16_l h hR
  · refine pw_if_lt 16 (px_at td_Mo_isRail 1 rfl) (by decide) (fun hn => absurd hn hc3) (fun _ => ?_)
    refine pw_iload_n 1 (px_at td_Mo_isRail 2 rfl) rfl rfl ?_
    refine pw_aload_n 0 (px_at td_Mo_isRail 3 rfl) rfl rfl ?_
    obtain ⟨r1, hk1, h⟩ := px_b1_e h
    refine pw_cV1 (0, 0, 0) [] [.inl v1] (px_at td_Mo_isRail 4 rfl) lV_Mo_223 rfl rfl rfl (Nat.le_of_ble_eq_true rfl) (by decide) (k_Mo_rails hk1) ?_
    rcases px_ite h with ⟨hc2, h⟩ | ⟨hc2, h⟩
    · refine pw_icmp_ge 16 (px_at td_Mo_isRail 5 rfl) (by decide) (fun _ => ?_) (fun hn => absurd hc2 hn)
      refine pw_L [] [] rfl ?_
      exact Mo_isRail_n16_l h hR
    · refine pw_icmp_ge 16 (px_at td_Mo_isRail 5 rfl) (by decide) (fun hn => absurd hn hc2) (fun _ => ?_)
      refine pw_iconst (v := 1) (px_at td_Mo_isRail 6 rfl) (by decide) ?_
      refine pw_goto 17 (px_at td_Mo_isRail 7 rfl) (by decide) ?_
      obtain rfl := Option.some.inj h
      exact pw_zret (px_at td_Mo_isRail 9 rfl) rfl (by decide) (Nat.le_refl 0) (Nat.le_refl 0) hR
theorem k_Mo_isRail {l : Launch} {ids : List pxI} {σ : pxS} {v1 : Int32} {res : Int32} (h : F_Mo_isRail σ v1 = some res) : pm l y_Mo_isRail c_Mo_isRail 2 (some .boolean) (px_R 2) [.inr (some (0, 0, 0)), .inl v1] ids mG σ (px_r (some (.inl res)) ids mG σ) :=
  pm_ofF (by decide +kernel) (Nat.le_of_ble_eq_true rfl) (e_Mo_isRail h ⟨rfl, rfl, rfl, rfl⟩)
/-! Mo_ask -/
def F_Mo_ask (σ : pxS) (v1 : Int32) (v2 : Int32) : Option (Int32 × pxS) :=
  px_l (px_up σ (0, 0, 0) 0 0) fun σ1 =>
  px_b1 (F_Mo_isRail σ1 v1) fun r2 =>
  (if r2 = 0 then some ((-1), σ1) else px_b1 (F_Mo_remembers σ1 ) fun σ3 =>
  px_b1 (F_Mo_asks σ3 v1 v2) fun σ4 =>
  px_b1 (F_Mo_state σ4 v1) fun r5 =>
  some (r5, σ4))
set_option maxRecDepth 100000 in
theorem e_Mo_ask {l : Launch} {ids : List pxI} {Rt : Option pxV → List pxI → pxG → pxS → Prop} {σ : pxS} {v1 : Int32} {v2 : Int32} {res : Int32 × pxS} (h : F_Mo_ask σ v1 v2 = some res) (hR : Rt (some (.inl res.1)) ids mG res.2) : pw l (px_R 6) y_Mo_ask c_Mo_ask 3 (some .int) 0 [(0, .inr (some (0, 0, 0))), (1, .inl v1), (2, .inl v2)] [] ids mG σ 0 0 Rt := by
  unfold F_Mo_ask at h
  refine pw_aload_n 0 (px_at td_Mo_ask 0 rfl) rfl rfl ?_
  refine pw_iconst (v := 0) (px_at td_Mo_ask 1 rfl) (by decide) ?_
  obtain ⟨σ1, hσ1, h⟩ := px_l_e h
  refine pw_puti (px_at td_Mo_ask 2 rfl) lw_Mo_99 rfl rfl (pw_s hσ1 ?_)
  refine pw_aload_n 0 (px_at td_Mo_ask 3 rfl) rfl rfl ?_
  refine pw_iload_n 1 (px_at td_Mo_ask 4 rfl) rfl rfl ?_
  obtain ⟨r2, hk2, h⟩ := px_b1_e h
  refine pw_cV1 (0, 0, 0) [.inl v1] [] (px_at td_Mo_ask 5 rfl) lV_Mo_300 rfl rfl rfl (Nat.le_of_ble_eq_true rfl) (by decide) (k_Mo_isRail hk2) ?_
  rcases px_ite h with ⟨hc6, h⟩ | ⟨hc6, h⟩
  · refine pw_if_ne 15 (px_at td_Mo_ask 6 rfl) (by decide) (fun hn => absurd hc6 hn) (fun _ => ?_)
    refine pw_iconst (v := (-1)) (px_at td_Mo_ask 7 rfl) (by decide) ?_
    obtain rfl := Option.some.inj h
    exact pw_iret (px_at td_Mo_ask 8 rfl) rfl (Nat.le_refl 0) (Nat.le_refl 0) hR
  · refine pw_if_ne 15 (px_at td_Mo_ask 6 rfl) (by decide) (fun _ => ?_) (fun hn => absurd hn hc6)
    refine pw_aload_n 0 (px_at td_Mo_ask 9 rfl) rfl rfl ?_
    obtain ⟨σ3, hk3, h⟩ := px_b1_e h
    refine pw_cV0 (0, 0, 0) [] [] (px_at td_Mo_ask 10 rfl) lV_Mo_294 rfl rfl rfl (Nat.le_of_ble_eq_true rfl) (by decide) (k_Mo_remembers hk3) ?_
    refine pw_aload_n 0 (px_at td_Mo_ask 11 rfl) rfl rfl ?_
    refine pw_iload_n 1 (px_at td_Mo_ask 12 rfl) rfl rfl ?_
    refine pw_iload_n 2 (px_at td_Mo_ask 13 rfl) rfl rfl ?_
    obtain ⟨σ4, hk4, h⟩ := px_b1_e h
    refine pw_cV0 (0, 0, 0) [.inl v1, .inl v2] [] (px_at td_Mo_ask 14 rfl) lV_Mo_262 rfl rfl rfl (Nat.le_of_ble_eq_true rfl) (by decide) (k_Mo_asks hk4) ?_
    refine pw_aload_n 0 (px_at td_Mo_ask 15 rfl) rfl rfl ?_
    refine pw_iload_n 1 (px_at td_Mo_ask 16 rfl) rfl rfl ?_
    obtain ⟨r5, hk5, h⟩ := px_b1_e h
    refine pw_cV1 (0, 0, 0) [.inl v1] [] (px_at td_Mo_ask 17 rfl) lV_Mo_230 rfl rfl rfl (Nat.le_of_ble_eq_true rfl) (by decide) (k_Mo_state hk5) ?_
    obtain rfl := Option.some.inj h
    exact pw_iret (px_at td_Mo_ask 18 rfl) rfl (Nat.le_refl 0) (Nat.le_refl 0) hR
theorem k_Mo_ask {l : Launch} {ids : List pxI} {σ : pxS} {v1 : Int32} {v2 : Int32} {res : Int32 × pxS} (h : F_Mo_ask σ v1 v2 = some res) : pm l y_Mo_ask c_Mo_ask 3 (some .int) (px_R 6) [.inr (some (0, 0, 0)), .inl v1, .inl v2] ids mG σ (px_r (some (.inl res.1)) ids mG res.2) :=
  pm_ofF (by decide +kernel) (Nat.le_of_ble_eq_true rfl) (e_Mo_ask h ⟨rfl, rfl, rfl, rfl⟩)
/-! Mo_begin -/
def F_Mo_begin (σ : pxS)  : Option (Int32 × pxS) :=
  px_l (px_up σ (0, 0, 0) 0 0) fun σ1 =>
  (if (σ1 (1, 3, 0) 2) = 0 then some ((-1), σ1) else (if (σ1 (1, 28, 0) 183) = 1 then some ((-2), σ1) else px_b1 (F_Mo_remembers σ1 ) fun σ2 =>
  px_l (px_up σ2 (1, 28, 0) 183 1) fun σ3 =>
  px_l (px_up σ3 (1, 28, 0) 184 0) fun σ4 =>
  px_l (px_up σ4 (1, 28, 0) 185 0) fun σ5 =>
  some ((σ5 (1, 3, 0) 2), σ5)))
set_option maxRecDepth 100000 in
theorem e_Mo_begin {l : Launch} {ids : List pxI} {Rt : Option pxV → List pxI → pxG → pxS → Prop} {σ : pxS}  {res : Int32 × pxS} (h : F_Mo_begin σ  = some res) (hR : Rt (some (.inl res.1)) ids mG res.2) : pw l (px_R 3) y_Mo_begin c_Mo_begin 1 (some .int) 0 [(0, .inr (some (0, 0, 0)))] [] ids mG σ 0 0 Rt := by
  unfold F_Mo_begin at h
  refine pw_aload_n 0 (px_at td_Mo_begin 0 rfl) rfl rfl ?_
  refine pw_iconst (v := 0) (px_at td_Mo_begin 1 rfl) (by decide) ?_
  obtain ⟨σ1, hσ1, h⟩ := px_l_e h
  refine pw_puti (px_at td_Mo_begin 2 rfl) lw_Mo_99 rfl rfl (pw_s hσ1 ?_)
  refine pw_aload_n 0 (px_at td_Mo_begin 3 rfl) rfl rfl ?_
  refine pw_getf (v := .inr (some (1, 3, 0))) (px_at td_Mo_begin 4 rfl) lf_Mo_13 rfl rfl rfl ?_
  refine pw_iconst (v := 2) (px_at td_Mo_begin 5 rfl) (by decide) ?_
  refine pw_ial (px_at td_Mo_begin 6 rfl) rfl (px_inL (by decide) px_z2 (by decide)) px_z2 ?_
  rcases px_ite h with ⟨hc7, h⟩ | ⟨hc7, h⟩
  · refine pw_if_ne 16 (px_at td_Mo_begin 7 rfl) (by decide) (fun hn => absurd hc7 hn) (fun _ => ?_)
    refine pw_iconst (v := (-1)) (px_at td_Mo_begin 8 rfl) (by decide) ?_
    obtain rfl := Option.some.inj h
    exact pw_iret (px_at td_Mo_begin 9 rfl) rfl (Nat.le_refl 0) (Nat.le_refl 0) hR
  · refine pw_if_ne 16 (px_at td_Mo_begin 7 rfl) (by decide) (fun _ => ?_) (fun hn => absurd hn hc7)
    refine pw_aload_n 0 (px_at td_Mo_begin 10 rfl) rfl rfl ?_
    refine pw_getf (v := .inr (some (1, 28, 0))) (px_at td_Mo_begin 11 rfl) lf_Mo_63 rfl rfl rfl ?_
    refine pw_sipush (v := 183) (px_at td_Mo_begin 12 rfl) (by decide) ?_
    refine pw_ial (px_at td_Mo_begin 13 rfl) rfl (px_inL (by decide) px_z183 (by decide)) px_z183 ?_
    refine pw_iconst (v := 1) (px_at td_Mo_begin 14 rfl) (by decide) ?_
    rcases px_ite h with ⟨hc6, h⟩ | ⟨hc6, h⟩
    · refine pw_icmp_ne 31 (px_at td_Mo_begin 15 rfl) (by decide) (fun hn => absurd hc6 hn) (fun _ => ?_)
      refine pw_bipush (v := (-2)) (px_at td_Mo_begin 16 rfl) (by decide) ?_
      obtain rfl := Option.some.inj h
      exact pw_iret (px_at td_Mo_begin 17 rfl) rfl (Nat.le_refl 0) (Nat.le_refl 0) hR
    · refine pw_icmp_ne 31 (px_at td_Mo_begin 15 rfl) (by decide) (fun _ => ?_) (fun hn => absurd hn hc6)
      refine pw_aload_n 0 (px_at td_Mo_begin 18 rfl) rfl rfl ?_
      obtain ⟨σ2, hk2, h⟩ := px_b1_e h
      refine pw_cV0 (0, 0, 0) [] [] (px_at td_Mo_begin 19 rfl) lV_Mo_294 rfl rfl rfl (Nat.le_of_ble_eq_true rfl) (by decide) (k_Mo_remembers hk2) ?_
      refine pw_aload_n 0 (px_at td_Mo_begin 20 rfl) rfl rfl ?_
      refine pw_getf (v := .inr (some (1, 28, 0))) (px_at td_Mo_begin 21 rfl) lf_Mo_63 rfl rfl rfl ?_
      refine pw_sipush (v := 183) (px_at td_Mo_begin 22 rfl) (by decide) ?_
      refine pw_iconst (v := 1) (px_at td_Mo_begin 23 rfl) (by decide) ?_
      obtain ⟨σ3, hσ3, h⟩ := px_l_e h
      refine pw_ias (px_at td_Mo_begin 24 rfl) rfl (px_inL (by decide) px_z183 (by decide)) px_z183 hσ3 ?_
      refine pw_aload_n 0 (px_at td_Mo_begin 25 rfl) rfl rfl ?_
      refine pw_getf (v := .inr (some (1, 28, 0))) (px_at td_Mo_begin 26 rfl) lf_Mo_63 rfl rfl rfl ?_
      refine pw_sipush (v := 184) (px_at td_Mo_begin 27 rfl) (by decide) ?_
      refine pw_iconst (v := 0) (px_at td_Mo_begin 28 rfl) (by decide) ?_
      obtain ⟨σ4, hσ4, h⟩ := px_l_e h
      refine pw_ias (px_at td_Mo_begin 29 rfl) rfl (px_inL (by decide) px_z184 (by decide)) px_z184 hσ4 ?_
      refine pw_aload_n 0 (px_at td_Mo_begin 30 rfl) rfl rfl ?_
      refine pw_getf (v := .inr (some (1, 28, 0))) (px_at td_Mo_begin 31 rfl) lf_Mo_63 rfl rfl rfl ?_
      refine pw_sipush (v := 185) (px_at td_Mo_begin 32 rfl) (by decide) ?_
      refine pw_iconst (v := 0) (px_at td_Mo_begin 33 rfl) (by decide) ?_
      obtain ⟨σ5, hσ5, h⟩ := px_l_e h
      refine pw_ias (px_at td_Mo_begin 34 rfl) rfl (px_inL (by decide) px_z185 (by decide)) px_z185 hσ5 ?_
      refine pw_aload_n 0 (px_at td_Mo_begin 35 rfl) rfl rfl ?_
      refine pw_getf (v := .inr (some (1, 3, 0))) (px_at td_Mo_begin 36 rfl) lf_Mo_13 rfl rfl rfl ?_
      refine pw_iconst (v := 2) (px_at td_Mo_begin 37 rfl) (by decide) ?_
      refine pw_ial (px_at td_Mo_begin 38 rfl) rfl (px_inL (by decide) px_z2 (by decide)) px_z2 ?_
      obtain rfl := Option.some.inj h
      exact pw_iret (px_at td_Mo_begin 39 rfl) rfl (Nat.le_refl 0) (Nat.le_refl 0) hR
theorem k_Mo_begin {l : Launch} {ids : List pxI} {σ : pxS}  {res : Int32 × pxS} (h : F_Mo_begin σ  = some res) : pm l y_Mo_begin c_Mo_begin 1 (some .int) (px_R 3) [.inr (some (0, 0, 0))] ids mG σ (px_r (some (.inl res.1)) ids mG res.2) :=
  pm_ofF (by decide +kernel) (Nat.le_of_ble_eq_true rfl) (e_Mo_begin h ⟨rfl, rfl, rfl, rfl⟩)
/-! Mo_load -/
def Mo_load_n24 (σ : pxS)  : Option (Int32 × pxS) :=
  some ((-1), σ)
set_option maxRecDepth 100000 in
theorem Mo_load_n24_l {l : Launch} {ids : List pxI} {Rt : Option pxV → List pxI → pxG → pxS → Prop} {σ : pxS}  {res : Int32 × pxS} (h : Mo_load_n24 σ  = some res) (hR : Rt (some (.inl res.1)) ids mG res.2) : pw l (px_R 3) y_Mo_load c_Mo_load 4 (some .int) 24 [] [] ids mG σ 0 0 Rt := by
  unfold Mo_load_n24 at h
  refine pw_iconst (v := (-1)) (px_at td_Mo_load 12 rfl) (by decide) ?_
  obtain rfl := Option.some.inj h
  exact pw_iret (px_at td_Mo_load 13 rfl) rfl (Nat.le_refl 0) (Nat.le_refl 0) hR
def F_Mo_load (σ : pxS) (v1 : Int32) (v2 : Int32) : Option (Int32 × pxS) :=
  px_l (px_up σ (0, 0, 0) 0 0) fun σ1 =>
  px_b1 (F_Mo_isRail σ1 v1) fun r2 =>
  (if r2 = 0 then Mo_load_n24 σ1  else (if v2 < 0 then Mo_load_n24 σ1  else (if v2 ≤ 9999 then px_gd ((13 * v1) + 6) 308 (px_b1 (F_Mo_remembers σ1 ) fun σ4 =>
  px_gd ((13 * v1) + 6) 308 (px_l (px_up σ4 (1, 28, 0) ((13 * v1) + 6).toNatClampNeg v2) fun σ6 =>
  some ((σ1 (1, 28, 0) ((13 * v1) + 6).toNatClampNeg), σ6))) else Mo_load_n24 σ1 )))
set_option maxRecDepth 100000 in
theorem e_Mo_load {l : Launch} {ids : List pxI} {Rt : Option pxV → List pxI → pxG → pxS → Prop} {σ : pxS} {v1 : Int32} {v2 : Int32} {res : Int32 × pxS} (h : F_Mo_load σ v1 v2 = some res) (hR : Rt (some (.inl res.1)) ids mG res.2) : pw l (px_R 3) y_Mo_load c_Mo_load 4 (some .int) 0 [(0, .inr (some (0, 0, 0))), (1, .inl v1), (2, .inl v2)] [] ids mG σ 0 0 Rt := by
  unfold F_Mo_load at h
  refine pw_aload_n 0 (px_at td_Mo_load 0 rfl) rfl rfl ?_
  refine pw_iconst (v := 0) (px_at td_Mo_load 1 rfl) (by decide) ?_
  obtain ⟨σ1, hσ1, h⟩ := px_l_e h
  refine pw_puti (px_at td_Mo_load 2 rfl) lw_Mo_99 rfl rfl (pw_s hσ1 ?_)
  refine pw_aload_n 0 (px_at td_Mo_load 3 rfl) rfl rfl ?_
  refine pw_iload_n 1 (px_at td_Mo_load 4 rfl) rfl rfl ?_
  obtain ⟨r2, hk2, h⟩ := px_b1_e h
  refine pw_cV1 (0, 0, 0) [.inl v1] [] (px_at td_Mo_load 5 rfl) lV_Mo_300 rfl rfl rfl (Nat.le_of_ble_eq_true rfl) (by decide) (k_Mo_isRail hk2) ?_
  rcases px_ite h with ⟨hc9, h⟩ | ⟨hc9, h⟩
  · refine pw_if_eq 24 (px_at td_Mo_load 6 rfl) (by decide) (fun _ => ?_) (fun hn => absurd hc9 hn)
    refine pw_L [] [] rfl ?_
    exact Mo_load_n24_l h hR
  · refine pw_if_eq 24 (px_at td_Mo_load 6 rfl) (by decide) (fun hn => absurd hn hc9) (fun _ => ?_)
    refine pw_iload_n 2 (px_at td_Mo_load 7 rfl) rfl rfl ?_
    rcases px_ite h with ⟨hc8, h⟩ | ⟨hc8, h⟩
    · refine pw_if_lt 24 (px_at td_Mo_load 8 rfl) (by decide) (fun _ => ?_) (fun hn => absurd hc8 hn)
      refine pw_L [] [] rfl ?_
      exact Mo_load_n24_l h hR
    · refine pw_if_lt 24 (px_at td_Mo_load 8 rfl) (by decide) (fun hn => absurd hn hc8) (fun _ => ?_)
      refine pw_iload_n 2 (px_at td_Mo_load 9 rfl) rfl rfl ?_
      refine pw_sipush (v := 9999) (px_at td_Mo_load 10 rfl) (by decide) ?_
      rcases px_ite h with ⟨hc7, h⟩ | ⟨hc7, h⟩
      · refine pw_icmp_le 26 (px_at td_Mo_load 11 rfl) (by decide) (fun _ => ?_) (fun hn => absurd hc7 hn)
        refine pw_aload_n 0 (px_at td_Mo_load 14 rfl) rfl rfl ?_
        refine pw_getf (v := .inr (some (1, 28, 0))) (px_at td_Mo_load 15 rfl) lf_Mo_63 rfl rfl rfl ?_
        refine pw_bipush (v := 13) (px_at td_Mo_load 16 rfl) (by decide) ?_
        refine pw_iload_n 1 (px_at td_Mo_load 17 rfl) rfl rfl ?_
        refine pw_imul (px_at td_Mo_load 18 rfl) ?_
        refine pw_bipush (v := 6) (px_at td_Mo_load 19 rfl) (by decide) ?_
        refine pw_iadd (px_at td_Mo_load 20 rfl) ?_
        obtain ⟨hi3, h⟩ := px_gd_e h
        refine pw_ial (px_at td_Mo_load 21 rfl) rfl hi3 rfl ?_
        refine pw_istore_n (L' := [(3, .inl (σ1 (1, 28, 0) ((13 * v1) + 6).toNatClampNeg)), (0, .inr (some (0, 0, 0))), (1, .inl v1), (2, .inl v2)]) (px_at td_Mo_load 22 rfl) rfl (by decide) rfl ?_
        refine pw_aload_n 1 (px_at td_Mo_load 23 rfl) rfl rfl ?_
        obtain ⟨σ4, hk4, h⟩ := px_b1_e h
        refine pw_cV0 (0, 0, 0) [] [] (px_at td_Mo_load 24 rfl) lV_Mo_294 rfl rfl rfl (Nat.le_of_ble_eq_true rfl) (by decide) (k_Mo_remembers hk4) ?_
        refine pw_aload_n 1 (px_at td_Mo_load 25 rfl) rfl rfl ?_
        refine pw_getf (v := .inr (some (1, 28, 0))) (px_at td_Mo_load 26 rfl) lf_Mo_63 rfl rfl rfl ?_
        refine pw_bipush (v := 13) (px_at td_Mo_load 27 rfl) (by decide) ?_
        refine pw_iload_n 2 (px_at td_Mo_load 28 rfl) rfl rfl ?_
        refine pw_imul (px_at td_Mo_load 29 rfl) ?_
        refine pw_bipush (v := 6) (px_at td_Mo_load 30 rfl) (by decide) ?_
        refine pw_iadd (px_at td_Mo_load 31 rfl) ?_
        refine pw_iload_n 3 (px_at td_Mo_load 32 rfl) rfl rfl ?_
        obtain ⟨hi5, h⟩ := px_gd_e h
        obtain ⟨σ6, hσ6, h⟩ := px_l_e h
        refine pw_ias (px_at td_Mo_load 33 rfl) rfl hi5 rfl hσ6 ?_
        refine pw_iload_n 0 (px_at td_Mo_load 34 rfl) rfl rfl ?_
        obtain rfl := Option.some.inj h
        exact pw_iret (px_at td_Mo_load 35 rfl) rfl (Nat.le_refl 0) (Nat.le_refl 0) hR
      · refine pw_icmp_le 26 (px_at td_Mo_load 11 rfl) (by decide) (fun hn => absurd hn hc7) (fun _ => ?_)
        refine pw_L [] [] rfl ?_
        exact Mo_load_n24_l h hR
theorem k_Mo_load {l : Launch} {ids : List pxI} {σ : pxS} {v1 : Int32} {v2 : Int32} {res : Int32 × pxS} (h : F_Mo_load σ v1 v2 = some res) : pm l y_Mo_load c_Mo_load 4 (some .int) (px_R 3) [.inr (some (0, 0, 0)), .inl v1, .inl v2] ids mG σ (px_r (some (.inl res.1)) ids mG res.2) :=
  pm_ofF (by decide +kernel) (Nat.le_of_ble_eq_true rfl) (e_Mo_load h ⟨rfl, rfl, rfl, rfl⟩)
/-! Mo_limit -/
def Mo_limit_n24 (σ : pxS)  : Option (Int32 × pxS) :=
  some ((-1), σ)
set_option maxRecDepth 100000 in
theorem Mo_limit_n24_l {l : Launch} {ids : List pxI} {Rt : Option pxV → List pxI → pxG → pxS → Prop} {σ : pxS}  {res : Int32 × pxS} (h : Mo_limit_n24 σ  = some res) (hR : Rt (some (.inl res.1)) ids mG res.2) : pw l (px_R 3) y_Mo_limit c_Mo_limit 4 (some .int) 24 [] [] ids mG σ 0 0 Rt := by
  unfold Mo_limit_n24 at h
  refine pw_iconst (v := (-1)) (px_at td_Mo_limit 13 rfl) (by decide) ?_
  obtain rfl := Option.some.inj h
  exact pw_iret (px_at td_Mo_limit 14 rfl) rfl (Nat.le_refl 0) (Nat.le_refl 0) hR
def F_Mo_limit (σ : pxS) (v1 : Int32) (v2 : Int32) : Option (Int32 × pxS) :=
  px_l (px_up σ (0, 0, 0) 0 0) fun σ1 =>
  px_b1 (F_Mo_isRail σ1 v1) fun r2 =>
  (if r2 = 0 then Mo_limit_n24 σ1  else (if v2 < 1 then Mo_limit_n24 σ1  else (if v2 ≤ 99999 then px_gd ((13 * v1) + 7) 308 (px_b1 (F_Mo_remembers σ1 ) fun σ4 =>
  px_gd ((13 * v1) + 7) 308 (px_l (px_up σ4 (1, 28, 0) ((13 * v1) + 7).toNatClampNeg v2) fun σ6 =>
  some ((σ1 (1, 28, 0) ((13 * v1) + 7).toNatClampNeg), σ6))) else Mo_limit_n24 σ1 )))
set_option maxRecDepth 100000 in
theorem e_Mo_limit {l : Launch} {ids : List pxI} {Rt : Option pxV → List pxI → pxG → pxS → Prop} {σ : pxS} {v1 : Int32} {v2 : Int32} {res : Int32 × pxS} (h : F_Mo_limit σ v1 v2 = some res) (hR : Rt (some (.inl res.1)) ids mG res.2) : pw l (px_R 3) y_Mo_limit c_Mo_limit 4 (some .int) 0 [(0, .inr (some (0, 0, 0))), (1, .inl v1), (2, .inl v2)] [] ids mG σ 0 0 Rt := by
  unfold F_Mo_limit at h
  refine pw_aload_n 0 (px_at td_Mo_limit 0 rfl) rfl rfl ?_
  refine pw_iconst (v := 0) (px_at td_Mo_limit 1 rfl) (by decide) ?_
  obtain ⟨σ1, hσ1, h⟩ := px_l_e h
  refine pw_puti (px_at td_Mo_limit 2 rfl) lw_Mo_99 rfl rfl (pw_s hσ1 ?_)
  refine pw_aload_n 0 (px_at td_Mo_limit 3 rfl) rfl rfl ?_
  refine pw_iload_n 1 (px_at td_Mo_limit 4 rfl) rfl rfl ?_
  obtain ⟨r2, hk2, h⟩ := px_b1_e h
  refine pw_cV1 (0, 0, 0) [.inl v1] [] (px_at td_Mo_limit 5 rfl) lV_Mo_300 rfl rfl rfl (Nat.le_of_ble_eq_true rfl) (by decide) (k_Mo_isRail hk2) ?_
  rcases px_ite h with ⟨hc9, h⟩ | ⟨hc9, h⟩
  · refine pw_if_eq 24 (px_at td_Mo_limit 6 rfl) (by decide) (fun _ => ?_) (fun hn => absurd hc9 hn)
    refine pw_L [] [] rfl ?_
    exact Mo_limit_n24_l h hR
  · refine pw_if_eq 24 (px_at td_Mo_limit 6 rfl) (by decide) (fun hn => absurd hn hc9) (fun _ => ?_)
    refine pw_iload_n 2 (px_at td_Mo_limit 7 rfl) rfl rfl ?_
    refine pw_iconst (v := 1) (px_at td_Mo_limit 8 rfl) (by decide) ?_
    rcases px_ite h with ⟨hc8, h⟩ | ⟨hc8, h⟩
    · refine pw_icmp_lt 24 (px_at td_Mo_limit 9 rfl) (by decide) (fun _ => ?_) (fun hn => absurd hc8 hn)
      refine pw_L [] [] rfl ?_
      exact Mo_limit_n24_l h hR
    · refine pw_icmp_lt 24 (px_at td_Mo_limit 9 rfl) (by decide) (fun hn => absurd hn hc8) (fun _ => ?_)
      refine pw_iload_n 2 (px_at td_Mo_limit 10 rfl) rfl rfl ?_
      refine pw_ldc (v := 99999) (px_at td_Mo_limit 11 rfl) lc_Mo_184 ?_
      rcases px_ite h with ⟨hc7, h⟩ | ⟨hc7, h⟩
      · refine pw_icmp_le 26 (px_at td_Mo_limit 12 rfl) (by decide) (fun _ => ?_) (fun hn => absurd hc7 hn)
        refine pw_aload_n 0 (px_at td_Mo_limit 15 rfl) rfl rfl ?_
        refine pw_getf (v := .inr (some (1, 28, 0))) (px_at td_Mo_limit 16 rfl) lf_Mo_63 rfl rfl rfl ?_
        refine pw_bipush (v := 13) (px_at td_Mo_limit 17 rfl) (by decide) ?_
        refine pw_iload_n 1 (px_at td_Mo_limit 18 rfl) rfl rfl ?_
        refine pw_imul (px_at td_Mo_limit 19 rfl) ?_
        refine pw_bipush (v := 7) (px_at td_Mo_limit 20 rfl) (by decide) ?_
        refine pw_iadd (px_at td_Mo_limit 21 rfl) ?_
        obtain ⟨hi3, h⟩ := px_gd_e h
        refine pw_ial (px_at td_Mo_limit 22 rfl) rfl hi3 rfl ?_
        refine pw_istore_n (L' := [(3, .inl (σ1 (1, 28, 0) ((13 * v1) + 7).toNatClampNeg)), (0, .inr (some (0, 0, 0))), (1, .inl v1), (2, .inl v2)]) (px_at td_Mo_limit 23 rfl) rfl (by decide) rfl ?_
        refine pw_aload_n 1 (px_at td_Mo_limit 24 rfl) rfl rfl ?_
        obtain ⟨σ4, hk4, h⟩ := px_b1_e h
        refine pw_cV0 (0, 0, 0) [] [] (px_at td_Mo_limit 25 rfl) lV_Mo_294 rfl rfl rfl (Nat.le_of_ble_eq_true rfl) (by decide) (k_Mo_remembers hk4) ?_
        refine pw_aload_n 1 (px_at td_Mo_limit 26 rfl) rfl rfl ?_
        refine pw_getf (v := .inr (some (1, 28, 0))) (px_at td_Mo_limit 27 rfl) lf_Mo_63 rfl rfl rfl ?_
        refine pw_bipush (v := 13) (px_at td_Mo_limit 28 rfl) (by decide) ?_
        refine pw_iload_n 2 (px_at td_Mo_limit 29 rfl) rfl rfl ?_
        refine pw_imul (px_at td_Mo_limit 30 rfl) ?_
        refine pw_bipush (v := 7) (px_at td_Mo_limit 31 rfl) (by decide) ?_
        refine pw_iadd (px_at td_Mo_limit 32 rfl) ?_
        refine pw_iload_n 3 (px_at td_Mo_limit 33 rfl) rfl rfl ?_
        obtain ⟨hi5, h⟩ := px_gd_e h
        obtain ⟨σ6, hσ6, h⟩ := px_l_e h
        refine pw_ias (px_at td_Mo_limit 34 rfl) rfl hi5 rfl hσ6 ?_
        refine pw_iload_n 0 (px_at td_Mo_limit 35 rfl) rfl rfl ?_
        obtain rfl := Option.some.inj h
        exact pw_iret (px_at td_Mo_limit 36 rfl) rfl (Nat.le_refl 0) (Nat.le_refl 0) hR
      · refine pw_icmp_le 26 (px_at td_Mo_limit 12 rfl) (by decide) (fun hn => absurd hn hc7) (fun _ => ?_)
        refine pw_L [] [] rfl ?_
        exact Mo_limit_n24_l h hR
theorem k_Mo_limit {l : Launch} {ids : List pxI} {σ : pxS} {v1 : Int32} {v2 : Int32} {res : Int32 × pxS} (h : F_Mo_limit σ v1 v2 = some res) : pm l y_Mo_limit c_Mo_limit 4 (some .int) (px_R 3) [.inr (some (0, 0, 0)), .inl v1, .inl v2] ids mG σ (px_r (some (.inl res.1)) ids mG res.2) :=
  pm_ofF (by decide +kernel) (Nat.le_of_ble_eq_true rfl) (e_Mo_limit h ⟨rfl, rfl, rfl, rfl⟩)
/-! Mo_rail -/
def F_Mo_rail (σ : pxS) (v1 : Int32) (v2 : Int32) : Option (Int32 × pxS) :=
  px_l (px_up σ (0, 0, 0) 0 0) fun σ1 =>
  px_b1 (F_Mo_isRail σ1 v1) fun r2 =>
  (if r2 = 0 then px_l (px_up σ1 (0, 0, 0) 0 1) fun σ23 =>
  some (0, σ23) else (if v2 = 0 then px_gd v1 24 (some ((σ1 (1, 6, 0) v1.toNatClampNeg), σ1)) else (if v2 = 1 then px_gd v1 24 (some ((σ1 (1, 7, 0) v1.toNatClampNeg), σ1)) else (if v2 = 2 then px_gd v1 24 (some ((σ1 (1, 8, 0) v1.toNatClampNeg), σ1)) else (if v2 = 3 then px_gd v1 24 (some ((σ1 (1, 9, 0) v1.toNatClampNeg), σ1)) else (if v2 = 4 then px_gd ((13 * v1) + 6) 308 (some ((σ1 (1, 28, 0) ((13 * v1) + 6).toNatClampNeg), σ1)) else (if v2 = 5 then px_gd ((13 * v1) + 7) 308 (some ((σ1 (1, 28, 0) ((13 * v1) + 7).toNatClampNeg), σ1)) else (if v2 = 6 then px_gd ((13 * v1) + 0) 308 (some ((σ1 (1, 28, 0) ((13 * v1) + 0).toNatClampNeg), σ1)) else (if v2 = 7 then px_gd ((13 * v1) + 1) 308 (some ((σ1 (1, 28, 0) ((13 * v1) + 1).toNatClampNeg), σ1)) else (if v2 = 8 then px_gd ((13 * v1) + 2) 308 (some ((σ1 (1, 28, 0) ((13 * v1) + 2).toNatClampNeg), σ1)) else (if v2 = 9 then px_gd ((13 * v1) + 3) 308 (some ((σ1 (1, 28, 0) ((13 * v1) + 3).toNatClampNeg), σ1)) else (if v2 = 10 then px_b1 (F_Mo_isGood σ1 v1) fun r15 =>
  (if r15 = 0 then some (0, σ1) else some (1, σ1)) else (if v2 = 11 then px_gd ((13 * v1) + 4) 308 (some ((σ1 (1, 28, 0) ((13 * v1) + 4).toNatClampNeg), σ1)) else (if v2 = 12 then px_gd ((13 * v1) + 5) 308 (some ((σ1 (1, 28, 0) ((13 * v1) + 5).toNatClampNeg), σ1)) else (if v2 = 13 then px_gd ((13 * v1) + 11) 308 (some ((σ1 (1, 28, 0) ((13 * v1) + 11).toNatClampNeg), σ1)) else (if v2 = 14 then px_gd ((13 * v1) + 10) 308 ((if (σ1 (1, 28, 0) ((13 * v1) + 10).toNatClampNeg) = 0 then some ((-2), σ1) else px_gd ((13 * v1) + 10) 308 (some (((σ1 (1, 28, 0) ((13 * v1) + 10).toNatClampNeg) - (σ1 (1, 28, 0) 182)), σ1)))) else px_l (px_up σ1 (0, 0, 0) 0 2) fun σ4 =>
  some (0, σ4)))))))))))))))))
set_option maxRecDepth 100000 in
theorem e_Mo_rail {l : Launch} {ids : List pxI} {Rt : Option pxV → List pxI → pxG → pxS → Prop} {σ : pxS} {v1 : Int32} {v2 : Int32} {res : Int32 × pxS} (h : F_Mo_rail σ v1 v2 = some res) (hR : Rt (some (.inl res.1)) ids mG res.2) : pw l (px_R 3) y_Mo_rail c_Mo_rail 4 (some .int) 0 [(0, .inr (some (0, 0, 0))), (1, .inl v1), (2, .inl v2)] [] ids mG σ 0 0 Rt := by
  unfold F_Mo_rail at h
  refine pw_aload_n 0 (px_at td_Mo_rail 0 rfl) rfl rfl ?_
  refine pw_iconst (v := 0) (px_at td_Mo_rail 1 rfl) (by decide) ?_
  obtain ⟨σ1, hσ1, h⟩ := px_l_e h
  refine pw_puti (px_at td_Mo_rail 2 rfl) lw_Mo_99 rfl rfl (pw_s hσ1 ?_)
  refine pw_aload_n 0 (px_at td_Mo_rail 3 rfl) rfl rfl ?_
  refine pw_iload_n 1 (px_at td_Mo_rail 4 rfl) rfl rfl ?_
  obtain ⟨r2, hk2, h⟩ := px_b1_e h
  refine pw_cV1 (0, 0, 0) [.inl v1] [] (px_at td_Mo_rail 5 rfl) lV_Mo_300 rfl rfl rfl (Nat.le_of_ble_eq_true rfl) (by decide) (k_Mo_isRail hk2) ?_
  rcases px_ite h with ⟨hc24, h⟩ | ⟨hc24, h⟩
  · refine pw_if_ne 20 (px_at td_Mo_rail 6 rfl) (by decide) (fun hn => absurd hc24 hn) (fun _ => ?_)
    refine pw_aload_n 0 (px_at td_Mo_rail 7 rfl) rfl rfl ?_
    refine pw_iconst (v := 1) (px_at td_Mo_rail 8 rfl) (by decide) ?_
    obtain ⟨σ23, hσ23, h⟩ := px_l_e h
    refine pw_puti (px_at td_Mo_rail 9 rfl) lw_Mo_99 rfl rfl (pw_s hσ23 ?_)
    refine pw_iconst (v := 0) (px_at td_Mo_rail 10 rfl) (by decide) ?_
    obtain rfl := Option.some.inj h
    exact pw_iret (px_at td_Mo_rail 11 rfl) rfl (Nat.le_refl 0) (Nat.le_refl 0) hR
  · refine pw_if_ne 20 (px_at td_Mo_rail 6 rfl) (by decide) (fun _ => ?_) (fun hn => absurd hn hc24)
    refine pw_bipush (v := 13) (px_at td_Mo_rail 12 rfl) (by decide) ?_
    refine pw_iload_n 1 (px_at td_Mo_rail 13 rfl) rfl rfl ?_
    refine pw_imul (px_at td_Mo_rail 14 rfl) ?_
    refine pw_istore_n (L' := [(3, .inl (13 * v1)), (0, .inr (some (0, 0, 0))), (1, .inl v1), (2, .inl v2)]) (px_at td_Mo_rail 15 rfl) rfl (by decide) rfl ?_
    refine pw_iload_n 3 (px_at td_Mo_rail 16 rfl) rfl rfl ?_
    rcases px_ite h with ⟨hs3_0, h⟩ | ⟨hs3_0, h⟩
    · refine pw_tin (off := 74) 0 100 (px_at td_Mo_rail 17 rfl) hs3_0 (by decide) (by decide) (by decide) (by decide) ?_
      refine pw_aload_n 1 (px_at td_Mo_rail 18 rfl) rfl rfl ?_
      refine pw_getf (v := .inr (some (1, 6, 0))) (px_at td_Mo_rail 19 rfl) lf_Mo_23 rfl rfl rfl ?_
      refine pw_iload_n 2 (px_at td_Mo_rail 20 rfl) rfl rfl ?_
      obtain ⟨hi5, h⟩ := px_gd_e h
      refine pw_ial (px_at td_Mo_rail 21 rfl) rfl hi5 rfl ?_
      obtain rfl := Option.some.inj h
      exact pw_iret (px_at td_Mo_rail 22 rfl) rfl (Nat.le_refl 0) (Nat.le_refl 0) hR
    · have hd3_0 := trivial
      rcases px_ite h with ⟨hs3_1, h⟩ | ⟨hs3_1, h⟩
      · refine pw_tin (off := 81) 1 107 (px_at td_Mo_rail 17 rfl) hs3_1 (by decide) (by decide) (by decide) (by decide) ?_
        refine pw_aload_n 1 (px_at td_Mo_rail 23 rfl) rfl rfl ?_
        refine pw_getf (v := .inr (some (1, 7, 0))) (px_at td_Mo_rail 24 rfl) lf_Mo_26 rfl rfl rfl ?_
        refine pw_iload_n 2 (px_at td_Mo_rail 25 rfl) rfl rfl ?_
        obtain ⟨hi6, h⟩ := px_gd_e h
        refine pw_ial (px_at td_Mo_rail 26 rfl) rfl hi6 rfl ?_
        obtain rfl := Option.some.inj h
        exact pw_iret (px_at td_Mo_rail 27 rfl) rfl (Nat.le_refl 0) (Nat.le_refl 0) hR
      · have hd3_1 := trivial
        rcases px_ite h with ⟨hs3_2, h⟩ | ⟨hs3_2, h⟩
        · refine pw_tin (off := 88) 2 114 (px_at td_Mo_rail 17 rfl) hs3_2 (by decide) (by decide) (by decide) (by decide) ?_
          refine pw_aload_n 1 (px_at td_Mo_rail 28 rfl) rfl rfl ?_
          refine pw_getf (v := .inr (some (1, 8, 0))) (px_at td_Mo_rail 29 rfl) lf_Mo_29 rfl rfl rfl ?_
          refine pw_iload_n 2 (px_at td_Mo_rail 30 rfl) rfl rfl ?_
          obtain ⟨hi7, h⟩ := px_gd_e h
          refine pw_ial (px_at td_Mo_rail 31 rfl) rfl hi7 rfl ?_
          obtain rfl := Option.some.inj h
          exact pw_iret (px_at td_Mo_rail 32 rfl) rfl (Nat.le_refl 0) (Nat.le_refl 0) hR
        · have hd3_2 := trivial
          rcases px_ite h with ⟨hs3_3, h⟩ | ⟨hs3_3, h⟩
          · refine pw_tin (off := 95) 3 121 (px_at td_Mo_rail 17 rfl) hs3_3 (by decide) (by decide) (by decide) (by decide) ?_
            refine pw_aload_n 1 (px_at td_Mo_rail 33 rfl) rfl rfl ?_
            refine pw_getf (v := .inr (some (1, 9, 0))) (px_at td_Mo_rail 34 rfl) lf_Mo_32 rfl rfl rfl ?_
            refine pw_iload_n 2 (px_at td_Mo_rail 35 rfl) rfl rfl ?_
            obtain ⟨hi8, h⟩ := px_gd_e h
            refine pw_ial (px_at td_Mo_rail 36 rfl) rfl hi8 rfl ?_
            obtain rfl := Option.some.inj h
            exact pw_iret (px_at td_Mo_rail 37 rfl) rfl (Nat.le_refl 0) (Nat.le_refl 0) hR
          · have hd3_3 := trivial
            rcases px_ite h with ⟨hs3_4, h⟩ | ⟨hs3_4, h⟩
            · refine pw_tin (off := 102) 4 128 (px_at td_Mo_rail 17 rfl) hs3_4 (by decide) (by decide) (by decide) (by decide) ?_
              refine pw_aload_n 1 (px_at td_Mo_rail 38 rfl) rfl rfl ?_
              refine pw_getf (v := .inr (some (1, 28, 0))) (px_at td_Mo_rail 39 rfl) lf_Mo_63 rfl rfl rfl ?_
              refine pw_iload_n 0 (px_at td_Mo_rail 40 rfl) rfl rfl ?_
              refine pw_bipush (v := 6) (px_at td_Mo_rail 41 rfl) (by decide) ?_
              refine pw_iadd (px_at td_Mo_rail 42 rfl) ?_
              obtain ⟨hi9, h⟩ := px_gd_e h
              refine pw_ial (px_at td_Mo_rail 43 rfl) rfl hi9 rfl ?_
              obtain rfl := Option.some.inj h
              exact pw_iret (px_at td_Mo_rail 44 rfl) rfl (Nat.le_refl 0) (Nat.le_refl 0) hR
            · have hd3_4 := trivial
              rcases px_ite h with ⟨hs3_5, h⟩ | ⟨hs3_5, h⟩
              · refine pw_tin (off := 112) 5 138 (px_at td_Mo_rail 17 rfl) hs3_5 (by decide) (by decide) (by decide) (by decide) ?_
                refine pw_aload_n 1 (px_at td_Mo_rail 45 rfl) rfl rfl ?_
                refine pw_getf (v := .inr (some (1, 28, 0))) (px_at td_Mo_rail 46 rfl) lf_Mo_63 rfl rfl rfl ?_
                refine pw_iload_n 0 (px_at td_Mo_rail 47 rfl) rfl rfl ?_
                refine pw_bipush (v := 7) (px_at td_Mo_rail 48 rfl) (by decide) ?_
                refine pw_iadd (px_at td_Mo_rail 49 rfl) ?_
                obtain ⟨hi10, h⟩ := px_gd_e h
                refine pw_ial (px_at td_Mo_rail 50 rfl) rfl hi10 rfl ?_
                obtain rfl := Option.some.inj h
                exact pw_iret (px_at td_Mo_rail 51 rfl) rfl (Nat.le_refl 0) (Nat.le_refl 0) hR
              · have hd3_5 := trivial
                rcases px_ite h with ⟨hs3_6, h⟩ | ⟨hs3_6, h⟩
                · refine pw_tin (off := 122) 6 148 (px_at td_Mo_rail 17 rfl) hs3_6 (by decide) (by decide) (by decide) (by decide) ?_
                  refine pw_aload_n 1 (px_at td_Mo_rail 52 rfl) rfl rfl ?_
                  refine pw_getf (v := .inr (some (1, 28, 0))) (px_at td_Mo_rail 53 rfl) lf_Mo_63 rfl rfl rfl ?_
                  refine pw_iload_n 0 (px_at td_Mo_rail 54 rfl) rfl rfl ?_
                  refine pw_iconst (v := 0) (px_at td_Mo_rail 55 rfl) (by decide) ?_
                  refine pw_iadd (px_at td_Mo_rail 56 rfl) ?_
                  obtain ⟨hi11, h⟩ := px_gd_e h
                  refine pw_ial (px_at td_Mo_rail 57 rfl) rfl hi11 rfl ?_
                  obtain rfl := Option.some.inj h
                  exact pw_iret (px_at td_Mo_rail 58 rfl) rfl (Nat.le_refl 0) (Nat.le_refl 0) hR
                · have hd3_6 := trivial
                  rcases px_ite h with ⟨hs3_7, h⟩ | ⟨hs3_7, h⟩
                  · refine pw_tin (off := 131) 7 157 (px_at td_Mo_rail 17 rfl) hs3_7 (by decide) (by decide) (by decide) (by decide) ?_
                    refine pw_aload_n 1 (px_at td_Mo_rail 59 rfl) rfl rfl ?_
                    refine pw_getf (v := .inr (some (1, 28, 0))) (px_at td_Mo_rail 60 rfl) lf_Mo_63 rfl rfl rfl ?_
                    refine pw_iload_n 0 (px_at td_Mo_rail 61 rfl) rfl rfl ?_
                    refine pw_iconst (v := 1) (px_at td_Mo_rail 62 rfl) (by decide) ?_
                    refine pw_iadd (px_at td_Mo_rail 63 rfl) ?_
                    obtain ⟨hi12, h⟩ := px_gd_e h
                    refine pw_ial (px_at td_Mo_rail 64 rfl) rfl hi12 rfl ?_
                    obtain rfl := Option.some.inj h
                    exact pw_iret (px_at td_Mo_rail 65 rfl) rfl (Nat.le_refl 0) (Nat.le_refl 0) hR
                  · have hd3_7 := trivial
                    rcases px_ite h with ⟨hs3_8, h⟩ | ⟨hs3_8, h⟩
                    · refine pw_tin (off := 140) 8 166 (px_at td_Mo_rail 17 rfl) hs3_8 (by decide) (by decide) (by decide) (by decide) ?_
                      refine pw_aload_n 1 (px_at td_Mo_rail 66 rfl) rfl rfl ?_
                      refine pw_getf (v := .inr (some (1, 28, 0))) (px_at td_Mo_rail 67 rfl) lf_Mo_63 rfl rfl rfl ?_
                      refine pw_iload_n 0 (px_at td_Mo_rail 68 rfl) rfl rfl ?_
                      refine pw_iconst (v := 2) (px_at td_Mo_rail 69 rfl) (by decide) ?_
                      refine pw_iadd (px_at td_Mo_rail 70 rfl) ?_
                      obtain ⟨hi13, h⟩ := px_gd_e h
                      refine pw_ial (px_at td_Mo_rail 71 rfl) rfl hi13 rfl ?_
                      obtain rfl := Option.some.inj h
                      exact pw_iret (px_at td_Mo_rail 72 rfl) rfl (Nat.le_refl 0) (Nat.le_refl 0) hR
                    · have hd3_8 := trivial
                      rcases px_ite h with ⟨hs3_9, h⟩ | ⟨hs3_9, h⟩
                      · refine pw_tin (off := 149) 9 175 (px_at td_Mo_rail 17 rfl) hs3_9 (by decide) (by decide) (by decide) (by decide) ?_
                        refine pw_aload_n 1 (px_at td_Mo_rail 73 rfl) rfl rfl ?_
                        refine pw_getf (v := .inr (some (1, 28, 0))) (px_at td_Mo_rail 74 rfl) lf_Mo_63 rfl rfl rfl ?_
                        refine pw_iload_n 0 (px_at td_Mo_rail 75 rfl) rfl rfl ?_
                        refine pw_iconst (v := 3) (px_at td_Mo_rail 76 rfl) (by decide) ?_
                        refine pw_iadd (px_at td_Mo_rail 77 rfl) ?_
                        obtain ⟨hi14, h⟩ := px_gd_e h
                        refine pw_ial (px_at td_Mo_rail 78 rfl) rfl hi14 rfl ?_
                        obtain rfl := Option.some.inj h
                        exact pw_iret (px_at td_Mo_rail 79 rfl) rfl (Nat.le_refl 0) (Nat.le_refl 0) hR
                      · have hd3_9 := trivial
                        rcases px_ite h with ⟨hs3_10, h⟩ | ⟨hs3_10, h⟩
                        · refine pw_tin (off := 158) 10 184 (px_at td_Mo_rail 17 rfl) hs3_10 (by decide) (by decide) (by decide) (by decide) ?_
                          refine pw_aload_n 1 (px_at td_Mo_rail 80 rfl) rfl rfl ?_
                          refine pw_iload_n 2 (px_at td_Mo_rail 81 rfl) rfl rfl ?_
                          obtain ⟨r15, hk15, h⟩ := px_b1_e h
                          refine pw_cV1 (0, 0, 0) [.inl v1] [] (px_at td_Mo_rail 82 rfl) lV_Mo_266 rfl rfl rfl (Nat.le_of_ble_eq_true rfl) (by decide) (k_Mo_isGood hk15) ?_
                          rcases px_ite h with ⟨hc16, h⟩ | ⟨hc16, h⟩
                          · refine pw_if_eq 196 (px_at td_Mo_rail 83 rfl) (by decide) (fun _ => ?_) (fun hn => absurd hc16 hn)
                            refine pw_iconst (v := 0) (px_at td_Mo_rail 86 rfl) (by decide) ?_
                            obtain rfl := Option.some.inj h
                            exact pw_iret (px_at td_Mo_rail 87 rfl) rfl (Nat.le_refl 0) (Nat.le_refl 0) hR
                          · refine pw_if_eq 196 (px_at td_Mo_rail 83 rfl) (by decide) (fun hn => absurd hn hc16) (fun _ => ?_)
                            refine pw_iconst (v := 1) (px_at td_Mo_rail 84 rfl) (by decide) ?_
                            refine pw_goto 197 (px_at td_Mo_rail 85 rfl) (by decide) ?_
                            obtain rfl := Option.some.inj h
                            exact pw_iret (px_at td_Mo_rail 87 rfl) rfl (Nat.le_refl 0) (Nat.le_refl 0) hR
                        · have hd3_10 := trivial
                          rcases px_ite h with ⟨hs3_11, h⟩ | ⟨hs3_11, h⟩
                          · refine pw_tin (off := 172) 11 198 (px_at td_Mo_rail 17 rfl) hs3_11 (by decide) (by decide) (by decide) (by decide) ?_
                            refine pw_aload_n 1 (px_at td_Mo_rail 88 rfl) rfl rfl ?_
                            refine pw_getf (v := .inr (some (1, 28, 0))) (px_at td_Mo_rail 89 rfl) lf_Mo_63 rfl rfl rfl ?_
                            refine pw_iload_n 0 (px_at td_Mo_rail 90 rfl) rfl rfl ?_
                            refine pw_iconst (v := 4) (px_at td_Mo_rail 91 rfl) (by decide) ?_
                            refine pw_iadd (px_at td_Mo_rail 92 rfl) ?_
                            obtain ⟨hi17, h⟩ := px_gd_e h
                            refine pw_ial (px_at td_Mo_rail 93 rfl) rfl hi17 rfl ?_
                            obtain rfl := Option.some.inj h
                            exact pw_iret (px_at td_Mo_rail 94 rfl) rfl (Nat.le_refl 0) (Nat.le_refl 0) hR
                          · have hd3_11 := trivial
                            rcases px_ite h with ⟨hs3_12, h⟩ | ⟨hs3_12, h⟩
                            · refine pw_tin (off := 181) 12 207 (px_at td_Mo_rail 17 rfl) hs3_12 (by decide) (by decide) (by decide) (by decide) ?_
                              refine pw_aload_n 1 (px_at td_Mo_rail 95 rfl) rfl rfl ?_
                              refine pw_getf (v := .inr (some (1, 28, 0))) (px_at td_Mo_rail 96 rfl) lf_Mo_63 rfl rfl rfl ?_
                              refine pw_iload_n 0 (px_at td_Mo_rail 97 rfl) rfl rfl ?_
                              refine pw_iconst (v := 5) (px_at td_Mo_rail 98 rfl) (by decide) ?_
                              refine pw_iadd (px_at td_Mo_rail 99 rfl) ?_
                              obtain ⟨hi18, h⟩ := px_gd_e h
                              refine pw_ial (px_at td_Mo_rail 100 rfl) rfl hi18 rfl ?_
                              obtain rfl := Option.some.inj h
                              exact pw_iret (px_at td_Mo_rail 101 rfl) rfl (Nat.le_refl 0) (Nat.le_refl 0) hR
                            · have hd3_12 := trivial
                              rcases px_ite h with ⟨hs3_13, h⟩ | ⟨hs3_13, h⟩
                              · refine pw_tin (off := 190) 13 216 (px_at td_Mo_rail 17 rfl) hs3_13 (by decide) (by decide) (by decide) (by decide) ?_
                                refine pw_aload_n 1 (px_at td_Mo_rail 102 rfl) rfl rfl ?_
                                refine pw_getf (v := .inr (some (1, 28, 0))) (px_at td_Mo_rail 103 rfl) lf_Mo_63 rfl rfl rfl ?_
                                refine pw_iload_n 0 (px_at td_Mo_rail 104 rfl) rfl rfl ?_
                                refine pw_bipush (v := 11) (px_at td_Mo_rail 105 rfl) (by decide) ?_
                                refine pw_iadd (px_at td_Mo_rail 106 rfl) ?_
                                obtain ⟨hi19, h⟩ := px_gd_e h
                                refine pw_ial (px_at td_Mo_rail 107 rfl) rfl hi19 rfl ?_
                                obtain rfl := Option.some.inj h
                                exact pw_iret (px_at td_Mo_rail 108 rfl) rfl (Nat.le_refl 0) (Nat.le_refl 0) hR
                              · have hd3_13 := trivial
                                rcases px_ite h with ⟨hs3_14, h⟩ | ⟨hs3_14, h⟩
                                · refine pw_tin (off := 200) 14 226 (px_at td_Mo_rail 17 rfl) hs3_14 (by decide) (by decide) (by decide) (by decide) ?_
                                  refine pw_aload_n 1 (px_at td_Mo_rail 109 rfl) rfl rfl ?_
                                  refine pw_getf (v := .inr (some (1, 28, 0))) (px_at td_Mo_rail 110 rfl) lf_Mo_63 rfl rfl rfl ?_
                                  refine pw_iload_n 0 (px_at td_Mo_rail 111 rfl) rfl rfl ?_
                                  refine pw_bipush (v := 10) (px_at td_Mo_rail 112 rfl) (by decide) ?_
                                  refine pw_iadd (px_at td_Mo_rail 113 rfl) ?_
                                  obtain ⟨hi20, h⟩ := px_gd_e h
                                  refine pw_ial (px_at td_Mo_rail 114 rfl) rfl hi20 rfl ?_
                                  rcases px_ite h with ⟨hc22, h⟩ | ⟨hc22, h⟩
                                  · refine pw_if_ne 243 (px_at td_Mo_rail 115 rfl) (by decide) (fun hn => absurd hc22 hn) (fun _ => ?_)
                                    refine pw_bipush (v := (-2)) (px_at td_Mo_rail 116 rfl) (by decide) ?_
                                    refine pw_goto 261 (px_at td_Mo_rail 117 rfl) (by decide) ?_
                                    obtain rfl := Option.some.inj h
                                    exact pw_iret (px_at td_Mo_rail 129 rfl) rfl (Nat.le_refl 0) (Nat.le_refl 0) hR
                                  · refine pw_if_ne 243 (px_at td_Mo_rail 115 rfl) (by decide) (fun _ => ?_) (fun hn => absurd hn hc22)
                                    refine pw_aload_n 1 (px_at td_Mo_rail 118 rfl) rfl rfl ?_
                                    refine pw_getf (v := .inr (some (1, 28, 0))) (px_at td_Mo_rail 119 rfl) lf_Mo_63 rfl rfl rfl ?_
                                    refine pw_iload_n 0 (px_at td_Mo_rail 120 rfl) rfl rfl ?_
                                    refine pw_bipush (v := 10) (px_at td_Mo_rail 121 rfl) (by decide) ?_
                                    refine pw_iadd (px_at td_Mo_rail 122 rfl) ?_
                                    obtain ⟨hi21, h⟩ := px_gd_e h
                                    refine pw_ial (px_at td_Mo_rail 123 rfl) rfl hi21 rfl ?_
                                    refine pw_aload_n 1 (px_at td_Mo_rail 124 rfl) rfl rfl ?_
                                    refine pw_getf (v := .inr (some (1, 28, 0))) (px_at td_Mo_rail 125 rfl) lf_Mo_63 rfl rfl rfl ?_
                                    refine pw_sipush (v := 182) (px_at td_Mo_rail 126 rfl) (by decide) ?_
                                    refine pw_ial (px_at td_Mo_rail 127 rfl) rfl (px_inL (by decide) px_z182 (by decide)) px_z182 ?_
                                    refine pw_isub (px_at td_Mo_rail 128 rfl) ?_
                                    obtain rfl := Option.some.inj h
                                    exact pw_iret (px_at td_Mo_rail 129 rfl) rfl (Nat.le_refl 0) (Nat.le_refl 0) hR
                                · have hd3_14 := trivial
                                  refine pw_tout 262 (px_at td_Mo_rail 17 rfl) (px_out [0, 1, 2, 3, 4, 5, 6, 7, 8, 9, 10, 11, 12, 13, 14] (by decide) (by simp only [List.forall_mem_cons]; exact ⟨hs3_0, hs3_1, hs3_2, hs3_3, hs3_4, hs3_5, hs3_6, hs3_7, hs3_8, hs3_9, hs3_10, hs3_11, hs3_12, hs3_13, hs3_14, fun _ hm => absurd hm List.not_mem_nil⟩)) (by decide) ?_
                                  refine pw_aload_n 1 (px_at td_Mo_rail 130 rfl) rfl rfl ?_
                                  refine pw_iconst (v := 2) (px_at td_Mo_rail 131 rfl) (by decide) ?_
                                  obtain ⟨σ4, hσ4, h⟩ := px_l_e h
                                  refine pw_puti (px_at td_Mo_rail 132 rfl) lw_Mo_99 rfl rfl (pw_s hσ4 ?_)
                                  refine pw_iconst (v := 0) (px_at td_Mo_rail 133 rfl) (by decide) ?_
                                  obtain rfl := Option.some.inj h
                                  exact pw_iret (px_at td_Mo_rail 134 rfl) rfl (Nat.le_refl 0) (Nat.le_refl 0) hR
theorem k_Mo_rail {l : Launch} {ids : List pxI} {σ : pxS} {v1 : Int32} {v2 : Int32} {res : Int32 × pxS} (h : F_Mo_rail σ v1 v2 = some res) : pm l y_Mo_rail c_Mo_rail 4 (some .int) (px_R 3) [.inr (some (0, 0, 0)), .inl v1, .inl v2] ids mG σ (px_r (some (.inl res.1)) ids mG res.2) :=
  pm_ofF (by decide +kernel) (Nat.le_of_ble_eq_true rfl) (e_Mo_rail h ⟨rfl, rfl, rfl, rfl⟩)
/-! Mo_hangs -/
def F_Mo_hangs (σ : pxS) (v1 : Int32) (v2 : Int32) : Option (Int32 × pxS) :=
  px_l (px_up σ (0, 0, 0) 0 0) fun σ1 =>
  px_b1 (F_Mo_isRail σ1 v1) fun r2 =>
  (if r2 = 0 then some ((-1), σ1) else (if v2 = 0 then px_gd v1 24 (some ((σ1 (1, 12, 0) v1.toNatClampNeg), σ1)) else (if v2 = 1 then px_gd v1 12 (some ((σ1 (1, 27, 0) v1.toNatClampNeg), σ1)) else (if v2 = 2 then px_b1 (F_Mo_hangOn σ1 v1) fun r6 =>
  some (r6, σ1) else some ((-1), σ1)))))
set_option maxRecDepth 100000 in
theorem e_Mo_hangs {l : Launch} {ids : List pxI} {Rt : Option pxV → List pxI → pxG → pxS → Prop} {σ : pxS} {v1 : Int32} {v2 : Int32} {res : Int32 × pxS} (h : F_Mo_hangs σ v1 v2 = some res) (hR : Rt (some (.inl res.1)) ids mG res.2) : pw l (px_R 3) y_Mo_hangs c_Mo_hangs 3 (some .int) 0 [(0, .inr (some (0, 0, 0))), (1, .inl v1), (2, .inl v2)] [] ids mG σ 0 0 Rt := by
  unfold F_Mo_hangs at h
  refine pw_aload_n 0 (px_at td_Mo_hangs 0 rfl) rfl rfl ?_
  refine pw_iconst (v := 0) (px_at td_Mo_hangs 1 rfl) (by decide) ?_
  obtain ⟨σ1, hσ1, h⟩ := px_l_e h
  refine pw_puti (px_at td_Mo_hangs 2 rfl) lw_Mo_99 rfl rfl (pw_s hσ1 ?_)
  refine pw_aload_n 0 (px_at td_Mo_hangs 3 rfl) rfl rfl ?_
  refine pw_iload_n 1 (px_at td_Mo_hangs 4 rfl) rfl rfl ?_
  obtain ⟨r2, hk2, h⟩ := px_b1_e h
  refine pw_cV1 (0, 0, 0) [.inl v1] [] (px_at td_Mo_hangs 5 rfl) lV_Mo_300 rfl rfl rfl (Nat.le_of_ble_eq_true rfl) (by decide) (k_Mo_isRail hk2) ?_
  rcases px_ite h with ⟨hc7, h⟩ | ⟨hc7, h⟩
  · refine pw_if_ne 15 (px_at td_Mo_hangs 6 rfl) (by decide) (fun hn => absurd hc7 hn) (fun _ => ?_)
    refine pw_iconst (v := (-1)) (px_at td_Mo_hangs 7 rfl) (by decide) ?_
    obtain rfl := Option.some.inj h
    exact pw_iret (px_at td_Mo_hangs 8 rfl) rfl (Nat.le_refl 0) (Nat.le_refl 0) hR
  · refine pw_if_ne 15 (px_at td_Mo_hangs 6 rfl) (by decide) (fun _ => ?_) (fun hn => absurd hn hc7)
    refine pw_iload_n 2 (px_at td_Mo_hangs 9 rfl) rfl rfl ?_
    rcases px_ite h with ⟨hs3_0, h⟩ | ⟨hs3_0, h⟩
    · refine pw_tin (off := 28) 0 44 (px_at td_Mo_hangs 10 rfl) hs3_0 (by decide) (by decide) (by decide) (by decide) ?_
      refine pw_aload_n 0 (px_at td_Mo_hangs 11 rfl) rfl rfl ?_
      refine pw_getf (v := .inr (some (1, 12, 0))) (px_at td_Mo_hangs 12 rfl) lf_Mo_41 rfl rfl rfl ?_
      refine pw_iload_n 1 (px_at td_Mo_hangs 13 rfl) rfl rfl ?_
      obtain ⟨hi4, h⟩ := px_gd_e h
      refine pw_ial (px_at td_Mo_hangs 14 rfl) rfl hi4 rfl ?_
      obtain rfl := Option.some.inj h
      exact pw_iret (px_at td_Mo_hangs 15 rfl) rfl (Nat.le_refl 0) (Nat.le_refl 0) hR
    · have hd3_0 := trivial
      rcases px_ite h with ⟨hs3_1, h⟩ | ⟨hs3_1, h⟩
      · refine pw_tin (off := 35) 1 51 (px_at td_Mo_hangs 10 rfl) hs3_1 (by decide) (by decide) (by decide) (by decide) ?_
        refine pw_aload_n 0 (px_at td_Mo_hangs 16 rfl) rfl rfl ?_
        refine pw_getf (v := .inr (some (1, 27, 0))) (px_at td_Mo_hangs 17 rfl) lf_Mo_60 rfl rfl rfl ?_
        refine pw_iload_n 1 (px_at td_Mo_hangs 18 rfl) rfl rfl ?_
        obtain ⟨hi5, h⟩ := px_gd_e h
        refine pw_ial (px_at td_Mo_hangs 19 rfl) rfl hi5 rfl ?_
        obtain rfl := Option.some.inj h
        exact pw_iret (px_at td_Mo_hangs 20 rfl) rfl (Nat.le_refl 0) (Nat.le_refl 0) hR
      · have hd3_1 := trivial
        rcases px_ite h with ⟨hs3_2, h⟩ | ⟨hs3_2, h⟩
        · refine pw_tin (off := 42) 2 58 (px_at td_Mo_hangs 10 rfl) hs3_2 (by decide) (by decide) (by decide) (by decide) ?_
          refine pw_aload_n 0 (px_at td_Mo_hangs 21 rfl) rfl rfl ?_
          refine pw_iload_n 1 (px_at td_Mo_hangs 22 rfl) rfl rfl ?_
          obtain ⟨r6, hk6, h⟩ := px_b1_e h
          refine pw_cV1 (0, 0, 0) [.inl v1] [] (px_at td_Mo_hangs 23 rfl) lV_Mo_250 rfl rfl rfl (Nat.le_of_ble_eq_true rfl) (by decide) (k_Mo_hangOn hk6) ?_
          obtain rfl := Option.some.inj h
          exact pw_iret (px_at td_Mo_hangs 24 rfl) rfl (Nat.le_refl 0) (Nat.le_refl 0) hR
        · have hd3_2 := trivial
          refine pw_tout 64 (px_at td_Mo_hangs 10 rfl) (px_out [0, 1, 2] (by decide) (by simp only [List.forall_mem_cons]; exact ⟨hs3_0, hs3_1, hs3_2, fun _ hm => absurd hm List.not_mem_nil⟩)) (by decide) ?_
          refine pw_iconst (v := (-1)) (px_at td_Mo_hangs 25 rfl) (by decide) ?_
          obtain rfl := Option.some.inj h
          exact pw_iret (px_at td_Mo_hangs 26 rfl) rfl (Nat.le_refl 0) (Nat.le_refl 0) hR
theorem k_Mo_hangs {l : Launch} {ids : List pxI} {σ : pxS} {v1 : Int32} {v2 : Int32} {res : Int32 × pxS} (h : F_Mo_hangs σ v1 v2 = some res) : pm l y_Mo_hangs c_Mo_hangs 3 (some .int) (px_R 3) [.inr (some (0, 0, 0)), .inl v1, .inl v2] ids mG σ (px_r (some (.inl res.1)) ids mG res.2) :=
  pm_ofF (by decide +kernel) (Nat.le_of_ble_eq_true rfl) (e_Mo_hangs h ⟨rfl, rfl, rfl, rfl⟩)
/-! Mo_waiting -/
def F_Mo_waiting (σ : pxS) (v1 : Int32) (v2 : Int32) : Option (Int32 × pxS) :=
  px_l (px_up σ (0, 0, 0) 0 0) fun σ1 =>
  (if 0 ≤ v1 then (if v2 = 0 then (if (σ1 (1, 28, 0) 156) ≤ v1 then some ((-2), σ1) else px_gd ((156 + 1) + v1) 308 (some ((σ1 (1, 28, 0) ((156 + 1) + v1).toNatClampNeg), σ1))) else (if (σ1 (1, 28, 0) 169) ≤ v1 then some ((-2), σ1) else px_gd ((169 + 1) + v1) 308 (some ((σ1 (1, 28, 0) ((169 + 1) + v1).toNatClampNeg), σ1)))) else some ((-1), σ1))
set_option maxRecDepth 100000 in
theorem e_Mo_waiting {l : Launch} {ids : List pxI} {Rt : Option pxV → List pxI → pxG → pxS → Prop} {σ : pxS} {v1 : Int32} {v2 : Int32} {res : Int32 × pxS} (h : F_Mo_waiting σ v1 v2 = some res) (hR : Rt (some (.inl res.1)) ids mG res.2) : pw l (px_R 1) y_Mo_waiting c_Mo_waiting 4 (some .int) 0 [(0, .inr (some (0, 0, 0))), (1, .inl v1), (2, .inl v2)] [] ids mG σ 0 0 Rt := by
  unfold F_Mo_waiting at h
  refine pw_aload_n 0 (px_at td_Mo_waiting 0 rfl) rfl rfl ?_
  refine pw_iconst (v := 0) (px_at td_Mo_waiting 1 rfl) (by decide) ?_
  obtain ⟨σ1, hσ1, h⟩ := px_l_e h
  refine pw_puti (px_at td_Mo_waiting 2 rfl) lw_Mo_99 rfl rfl (pw_s hσ1 ?_)
  refine pw_iload_n 1 (px_at td_Mo_waiting 3 rfl) rfl rfl ?_
  rcases px_ite h with ⟨hc7, h⟩ | ⟨hc7, h⟩
  · refine pw_if_ge 11 (px_at td_Mo_waiting 4 rfl) (by decide) (fun _ => ?_) (fun hn => absurd hc7 hn)
    refine pw_iload_n 2 (px_at td_Mo_waiting 7 rfl) rfl rfl ?_
    rcases px_ite h with ⟨hc6, h⟩ | ⟨hc6, h⟩
    · refine pw_if_eq 21 (px_at td_Mo_waiting 8 rfl) (by decide) (fun _ => ?_) (fun hn => absurd hc6 hn)
      refine pw_sipush (v := 156) (px_at td_Mo_waiting 11 rfl) (by decide) ?_
      refine pw_istore_n (L' := [(3, .inl 156), (0, .inr (some (0, 0, 0))), (1, .inl v1), (2, .inl v2)]) (px_at td_Mo_waiting 12 rfl) rfl (by decide) rfl ?_
      refine pw_iload_n 2 (px_at td_Mo_waiting 13 rfl) rfl rfl ?_
      refine pw_aload_n 1 (px_at td_Mo_waiting 14 rfl) rfl rfl ?_
      refine pw_getf (v := .inr (some (1, 28, 0))) (px_at td_Mo_waiting 15 rfl) lf_Mo_63 rfl rfl rfl ?_
      refine pw_iload_n 0 (px_at td_Mo_waiting 16 rfl) rfl rfl ?_
      refine pw_ial (px_at td_Mo_waiting 17 rfl) rfl (px_inL (by decide) px_z156 (by decide)) px_z156 ?_
      rcases px_ite h with ⟨hc3, h⟩ | ⟨hc3, h⟩
      · refine pw_icmp_ge 48 (px_at td_Mo_waiting 18 rfl) (by decide) (fun _ => ?_) (fun hn => absurd hc3 hn)
        refine pw_bipush (v := (-2)) (px_at td_Mo_waiting 28 rfl) (by decide) ?_
        obtain rfl := Option.some.inj h
        exact pw_iret (px_at td_Mo_waiting 29 rfl) rfl (Nat.le_refl 0) (Nat.le_refl 0) hR
      · refine pw_icmp_ge 48 (px_at td_Mo_waiting 18 rfl) (by decide) (fun hn => absurd hn hc3) (fun _ => ?_)
        refine pw_aload_n 1 (px_at td_Mo_waiting 19 rfl) rfl rfl ?_
        refine pw_getf (v := .inr (some (1, 28, 0))) (px_at td_Mo_waiting 20 rfl) lf_Mo_63 rfl rfl rfl ?_
        refine pw_iload_n 0 (px_at td_Mo_waiting 21 rfl) rfl rfl ?_
        refine pw_iconst (v := 1) (px_at td_Mo_waiting 22 rfl) (by decide) ?_
        refine pw_iadd (px_at td_Mo_waiting 23 rfl) ?_
        refine pw_iload_n 2 (px_at td_Mo_waiting 24 rfl) rfl rfl ?_
        refine pw_iadd (px_at td_Mo_waiting 25 rfl) ?_
        obtain ⟨hi2, h⟩ := px_gd_e h
        refine pw_ial (px_at td_Mo_waiting 26 rfl) rfl hi2 rfl ?_
        refine pw_goto 50 (px_at td_Mo_waiting 27 rfl) (by decide) ?_
        obtain rfl := Option.some.inj h
        exact pw_iret (px_at td_Mo_waiting 29 rfl) rfl (Nat.le_refl 0) (Nat.le_refl 0) hR
    · refine pw_if_eq 21 (px_at td_Mo_waiting 8 rfl) (by decide) (fun hn => absurd hn hc6) (fun _ => ?_)
      refine pw_sipush (v := 169) (px_at td_Mo_waiting 9 rfl) (by decide) ?_
      refine pw_goto 24 (px_at td_Mo_waiting 10 rfl) (by decide) ?_
      refine pw_istore_n (L' := [(3, .inl 169), (0, .inr (some (0, 0, 0))), (1, .inl v1), (2, .inl v2)]) (px_at td_Mo_waiting 12 rfl) rfl (by decide) rfl ?_
      refine pw_iload_n 2 (px_at td_Mo_waiting 13 rfl) rfl rfl ?_
      refine pw_aload_n 1 (px_at td_Mo_waiting 14 rfl) rfl rfl ?_
      refine pw_getf (v := .inr (some (1, 28, 0))) (px_at td_Mo_waiting 15 rfl) lf_Mo_63 rfl rfl rfl ?_
      refine pw_iload_n 0 (px_at td_Mo_waiting 16 rfl) rfl rfl ?_
      refine pw_ial (px_at td_Mo_waiting 17 rfl) rfl (px_inL (by decide) px_z169 (by decide)) px_z169 ?_
      rcases px_ite h with ⟨hc5, h⟩ | ⟨hc5, h⟩
      · refine pw_icmp_ge 48 (px_at td_Mo_waiting 18 rfl) (by decide) (fun _ => ?_) (fun hn => absurd hc5 hn)
        refine pw_bipush (v := (-2)) (px_at td_Mo_waiting 28 rfl) (by decide) ?_
        obtain rfl := Option.some.inj h
        exact pw_iret (px_at td_Mo_waiting 29 rfl) rfl (Nat.le_refl 0) (Nat.le_refl 0) hR
      · refine pw_icmp_ge 48 (px_at td_Mo_waiting 18 rfl) (by decide) (fun hn => absurd hn hc5) (fun _ => ?_)
        refine pw_aload_n 1 (px_at td_Mo_waiting 19 rfl) rfl rfl ?_
        refine pw_getf (v := .inr (some (1, 28, 0))) (px_at td_Mo_waiting 20 rfl) lf_Mo_63 rfl rfl rfl ?_
        refine pw_iload_n 0 (px_at td_Mo_waiting 21 rfl) rfl rfl ?_
        refine pw_iconst (v := 1) (px_at td_Mo_waiting 22 rfl) (by decide) ?_
        refine pw_iadd (px_at td_Mo_waiting 23 rfl) ?_
        refine pw_iload_n 2 (px_at td_Mo_waiting 24 rfl) rfl rfl ?_
        refine pw_iadd (px_at td_Mo_waiting 25 rfl) ?_
        obtain ⟨hi4, h⟩ := px_gd_e h
        refine pw_ial (px_at td_Mo_waiting 26 rfl) rfl hi4 rfl ?_
        refine pw_goto 50 (px_at td_Mo_waiting 27 rfl) (by decide) ?_
        obtain rfl := Option.some.inj h
        exact pw_iret (px_at td_Mo_waiting 29 rfl) rfl (Nat.le_refl 0) (Nat.le_refl 0) hR
  · refine pw_if_ge 11 (px_at td_Mo_waiting 4 rfl) (by decide) (fun hn => absurd hn hc7) (fun _ => ?_)
    refine pw_iconst (v := (-1)) (px_at td_Mo_waiting 5 rfl) (by decide) ?_
    obtain rfl := Option.some.inj h
    exact pw_iret (px_at td_Mo_waiting 6 rfl) rfl (Nat.le_refl 0) (Nat.le_refl 0) hR
theorem k_Mo_waiting {l : Launch} {ids : List pxI} {σ : pxS} {v1 : Int32} {v2 : Int32} {res : Int32 × pxS} (h : F_Mo_waiting σ v1 v2 = some res) : pm l y_Mo_waiting c_Mo_waiting 4 (some .int) (px_R 1) [.inr (some (0, 0, 0)), .inl v1, .inl v2] ids mG σ (px_r (some (.inl res.1)) ids mG res.2) :=
  pm_ofF (by decide +kernel) (Nat.le_of_ble_eq_true rfl) (e_Mo_waiting h ⟨rfl, rfl, rfl, rfl⟩)
/-! Mo_sequence -/
def F_Mo_sequence (σ : pxS) (v1 : Int32) : Option (Int32 × pxS) :=
  px_l (px_up σ (0, 0, 0) 0 0) fun σ1 =>
  (if v1 = 0 then some ((σ1 (1, 28, 0) 183), σ1) else (if v1 = 1 then some ((σ1 (1, 28, 0) 184), σ1) else (if v1 = 2 then some ((σ1 (1, 28, 0) 185), σ1) else some ((-1), σ1))))
set_option maxRecDepth 100000 in
theorem e_Mo_sequence {l : Launch} {ids : List pxI} {Rt : Option pxV → List pxI → pxG → pxS → Prop} {σ : pxS} {v1 : Int32} {res : Int32 × pxS} (h : F_Mo_sequence σ v1 = some res) (hR : Rt (some (.inl res.1)) ids mG res.2) : pw l (px_R 1) y_Mo_sequence c_Mo_sequence 2 (some .int) 0 [(0, .inr (some (0, 0, 0))), (1, .inl v1)] [] ids mG σ 0 0 Rt := by
  unfold F_Mo_sequence at h
  refine pw_aload_n 0 (px_at td_Mo_sequence 0 rfl) rfl rfl ?_
  refine pw_iconst (v := 0) (px_at td_Mo_sequence 1 rfl) (by decide) ?_
  obtain ⟨σ1, hσ1, h⟩ := px_l_e h
  refine pw_puti (px_at td_Mo_sequence 2 rfl) lw_Mo_99 rfl rfl (pw_s hσ1 ?_)
  refine pw_iload_n 1 (px_at td_Mo_sequence 3 rfl) rfl rfl ?_
  rcases px_ite h with ⟨hc4, h⟩ | ⟨hc4, h⟩
  · refine pw_if_ne 20 (px_at td_Mo_sequence 4 rfl) (by decide) (fun hn => absurd hc4 hn) (fun _ => ?_)
    refine pw_aload_n 0 (px_at td_Mo_sequence 5 rfl) rfl rfl ?_
    refine pw_getf (v := .inr (some (1, 28, 0))) (px_at td_Mo_sequence 6 rfl) lf_Mo_63 rfl rfl rfl ?_
    refine pw_sipush (v := 183) (px_at td_Mo_sequence 7 rfl) (by decide) ?_
    refine pw_ial (px_at td_Mo_sequence 8 rfl) rfl (px_inL (by decide) px_z183 (by decide)) px_z183 ?_
    refine pw_goto 53 (px_at td_Mo_sequence 9 rfl) (by decide) ?_
    obtain rfl := Option.some.inj h
    exact pw_iret (px_at td_Mo_sequence 27 rfl) rfl (Nat.le_refl 0) (Nat.le_refl 0) hR
  · refine pw_if_ne 20 (px_at td_Mo_sequence 4 rfl) (by decide) (fun _ => ?_) (fun hn => absurd hn hc4)
    refine pw_iload_n 1 (px_at td_Mo_sequence 10 rfl) rfl rfl ?_
    refine pw_iconst (v := 1) (px_at td_Mo_sequence 11 rfl) (by decide) ?_
    rcases px_ite h with ⟨hc3, h⟩ | ⟨hc3, h⟩
    · refine pw_icmp_ne 36 (px_at td_Mo_sequence 12 rfl) (by decide) (fun hn => absurd hc3 hn) (fun _ => ?_)
      refine pw_aload_n 0 (px_at td_Mo_sequence 13 rfl) rfl rfl ?_
      refine pw_getf (v := .inr (some (1, 28, 0))) (px_at td_Mo_sequence 14 rfl) lf_Mo_63 rfl rfl rfl ?_
      refine pw_sipush (v := 184) (px_at td_Mo_sequence 15 rfl) (by decide) ?_
      refine pw_ial (px_at td_Mo_sequence 16 rfl) rfl (px_inL (by decide) px_z184 (by decide)) px_z184 ?_
      refine pw_goto 53 (px_at td_Mo_sequence 17 rfl) (by decide) ?_
      obtain rfl := Option.some.inj h
      exact pw_iret (px_at td_Mo_sequence 27 rfl) rfl (Nat.le_refl 0) (Nat.le_refl 0) hR
    · refine pw_icmp_ne 36 (px_at td_Mo_sequence 12 rfl) (by decide) (fun _ => ?_) (fun hn => absurd hn hc3)
      refine pw_iload_n 1 (px_at td_Mo_sequence 18 rfl) rfl rfl ?_
      refine pw_iconst (v := 2) (px_at td_Mo_sequence 19 rfl) (by decide) ?_
      rcases px_ite h with ⟨hc2, h⟩ | ⟨hc2, h⟩
      · refine pw_icmp_ne 52 (px_at td_Mo_sequence 20 rfl) (by decide) (fun hn => absurd hc2 hn) (fun _ => ?_)
        refine pw_aload_n 0 (px_at td_Mo_sequence 21 rfl) rfl rfl ?_
        refine pw_getf (v := .inr (some (1, 28, 0))) (px_at td_Mo_sequence 22 rfl) lf_Mo_63 rfl rfl rfl ?_
        refine pw_sipush (v := 185) (px_at td_Mo_sequence 23 rfl) (by decide) ?_
        refine pw_ial (px_at td_Mo_sequence 24 rfl) rfl (px_inL (by decide) px_z185 (by decide)) px_z185 ?_
        refine pw_goto 53 (px_at td_Mo_sequence 25 rfl) (by decide) ?_
        obtain rfl := Option.some.inj h
        exact pw_iret (px_at td_Mo_sequence 27 rfl) rfl (Nat.le_refl 0) (Nat.le_refl 0) hR
      · refine pw_icmp_ne 52 (px_at td_Mo_sequence 20 rfl) (by decide) (fun _ => ?_) (fun hn => absurd hn hc2)
        refine pw_iconst (v := (-1)) (px_at td_Mo_sequence 26 rfl) (by decide) ?_
        obtain rfl := Option.some.inj h
        exact pw_iret (px_at td_Mo_sequence 27 rfl) rfl (Nat.le_refl 0) (Nat.le_refl 0) hR
theorem k_Mo_sequence {l : Launch} {ids : List pxI} {σ : pxS} {v1 : Int32} {res : Int32 × pxS} (h : F_Mo_sequence σ v1 = some res) : pm l y_Mo_sequence c_Mo_sequence 2 (some .int) (px_R 1) [.inr (some (0, 0, 0)), .inl v1] ids mG σ (px_r (some (.inl res.1)) ids mG res.2) :=
  pm_ofF (by decide +kernel) (Nat.le_of_ble_eq_true rfl) (e_Mo_sequence h ⟨rfl, rfl, rfl, rfl⟩)
/-! Mo_step -/
def Mo_step_n19 (σ : pxS)  : Option (Int32 × pxS) :=
  some ((-1), σ)
set_option maxRecDepth 100000 in
theorem Mo_step_n19_l {l : Launch} {ids : List pxI} {Rt : Option pxV → List pxI → pxG → pxS → Prop} {σ : pxS}  {res : Int32 × pxS} (h : Mo_step_n19 σ  = some res) (hR : Rt (some (.inl res.1)) ids mG res.2) : pw l (px_R 1) y_Mo_step c_Mo_step 3 (some .int) 19 [] [] ids mG σ 0 0 Rt := by
  unfold Mo_step_n19 at h
  refine pw_iconst (v := (-1)) (px_at td_Mo_step 11 rfl) (by decide) ?_
  obtain rfl := Option.some.inj h
  exact pw_iret (px_at td_Mo_step 12 rfl) rfl (Nat.le_refl 0) (Nat.le_refl 0) hR
def F_Mo_step (σ : pxS) (v1 : Int32) (v2 : Int32) : Option (Int32 × pxS) :=
  px_l (px_up σ (0, 0, 0) 0 0) fun σ1 =>
  (if v1 < 0 then Mo_step_n19 σ1  else (if v1 < (σ1 (1, 3, 0) 2) then (if v2 = 0 then px_gd v1 48 (some ((σ1 (1, 13, 0) v1.toNatClampNeg), σ1)) else (if v2 = 1 then px_gd v1 48 (some ((σ1 (1, 14, 0) v1.toNatClampNeg), σ1)) else (if v2 = 2 then px_gd v1 48 (some ((σ1 (1, 15, 0) v1.toNatClampNeg), σ1)) else some ((-1), σ1)))) else Mo_step_n19 σ1 ))
set_option maxRecDepth 100000 in
theorem e_Mo_step {l : Launch} {ids : List pxI} {Rt : Option pxV → List pxI → pxG → pxS → Prop} {σ : pxS} {v1 : Int32} {v2 : Int32} {res : Int32 × pxS} (h : F_Mo_step σ v1 v2 = some res) (hR : Rt (some (.inl res.1)) ids mG res.2) : pw l (px_R 1) y_Mo_step c_Mo_step 3 (some .int) 0 [(0, .inr (some (0, 0, 0))), (1, .inl v1), (2, .inl v2)] [] ids mG σ 0 0 Rt := by
  unfold F_Mo_step at h
  refine pw_aload_n 0 (px_at td_Mo_step 0 rfl) rfl rfl ?_
  refine pw_iconst (v := 0) (px_at td_Mo_step 1 rfl) (by decide) ?_
  obtain ⟨σ1, hσ1, h⟩ := px_l_e h
  refine pw_puti (px_at td_Mo_step 2 rfl) lw_Mo_99 rfl rfl (pw_s hσ1 ?_)
  refine pw_iload_n 1 (px_at td_Mo_step 3 rfl) rfl rfl ?_
  rcases px_ite h with ⟨hc9, h⟩ | ⟨hc9, h⟩
  · refine pw_if_lt 19 (px_at td_Mo_step 4 rfl) (by decide) (fun _ => ?_) (fun hn => absurd hc9 hn)
    refine pw_L [] [] rfl ?_
    exact Mo_step_n19_l h hR
  · refine pw_if_lt 19 (px_at td_Mo_step 4 rfl) (by decide) (fun hn => absurd hn hc9) (fun _ => ?_)
    refine pw_iload_n 1 (px_at td_Mo_step 5 rfl) rfl rfl ?_
    refine pw_aload_n 0 (px_at td_Mo_step 6 rfl) rfl rfl ?_
    refine pw_getf (v := .inr (some (1, 3, 0))) (px_at td_Mo_step 7 rfl) lf_Mo_13 rfl rfl rfl ?_
    refine pw_iconst (v := 2) (px_at td_Mo_step 8 rfl) (by decide) ?_
    refine pw_ial (px_at td_Mo_step 9 rfl) rfl (px_inL (by decide) px_z2 (by decide)) px_z2 ?_
    rcases px_ite h with ⟨hc8, h⟩ | ⟨hc8, h⟩
    · refine pw_icmp_lt 21 (px_at td_Mo_step 10 rfl) (by decide) (fun _ => ?_) (fun hn => absurd hc8 hn)
      refine pw_iload_n 2 (px_at td_Mo_step 13 rfl) rfl rfl ?_
      rcases px_ite h with ⟨hc7, h⟩ | ⟨hc7, h⟩
      · refine pw_if_ne 34 (px_at td_Mo_step 14 rfl) (by decide) (fun hn => absurd hc7 hn) (fun _ => ?_)
        refine pw_aload_n 0 (px_at td_Mo_step 15 rfl) rfl rfl ?_
        refine pw_getf (v := .inr (some (1, 13, 0))) (px_at td_Mo_step 16 rfl) lf_Mo_44 rfl rfl rfl ?_
        refine pw_iload_n 1 (px_at td_Mo_step 17 rfl) rfl rfl ?_
        obtain ⟨hi6, h⟩ := px_gd_e h
        refine pw_ial (px_at td_Mo_step 18 rfl) rfl hi6 rfl ?_
        refine pw_goto 63 (px_at td_Mo_step 19 rfl) (by decide) ?_
        obtain rfl := Option.some.inj h
        exact pw_iret (px_at td_Mo_step 37 rfl) rfl (Nat.le_refl 0) (Nat.le_refl 0) hR
      · refine pw_if_ne 34 (px_at td_Mo_step 14 rfl) (by decide) (fun _ => ?_) (fun hn => absurd hn hc7)
        refine pw_iload_n 2 (px_at td_Mo_step 20 rfl) rfl rfl ?_
        refine pw_iconst (v := 1) (px_at td_Mo_step 21 rfl) (by decide) ?_
        rcases px_ite h with ⟨hc5, h⟩ | ⟨hc5, h⟩
        · refine pw_icmp_ne 48 (px_at td_Mo_step 22 rfl) (by decide) (fun hn => absurd hc5 hn) (fun _ => ?_)
          refine pw_aload_n 0 (px_at td_Mo_step 23 rfl) rfl rfl ?_
          refine pw_getf (v := .inr (some (1, 14, 0))) (px_at td_Mo_step 24 rfl) lf_Mo_47 rfl rfl rfl ?_
          refine pw_iload_n 1 (px_at td_Mo_step 25 rfl) rfl rfl ?_
          obtain ⟨hi4, h⟩ := px_gd_e h
          refine pw_ial (px_at td_Mo_step 26 rfl) rfl hi4 rfl ?_
          refine pw_goto 63 (px_at td_Mo_step 27 rfl) (by decide) ?_
          obtain rfl := Option.some.inj h
          exact pw_iret (px_at td_Mo_step 37 rfl) rfl (Nat.le_refl 0) (Nat.le_refl 0) hR
        · refine pw_icmp_ne 48 (px_at td_Mo_step 22 rfl) (by decide) (fun _ => ?_) (fun hn => absurd hn hc5)
          refine pw_iload_n 2 (px_at td_Mo_step 28 rfl) rfl rfl ?_
          refine pw_iconst (v := 2) (px_at td_Mo_step 29 rfl) (by decide) ?_
          rcases px_ite h with ⟨hc3, h⟩ | ⟨hc3, h⟩
          · refine pw_icmp_ne 62 (px_at td_Mo_step 30 rfl) (by decide) (fun hn => absurd hc3 hn) (fun _ => ?_)
            refine pw_aload_n 0 (px_at td_Mo_step 31 rfl) rfl rfl ?_
            refine pw_getf (v := .inr (some (1, 15, 0))) (px_at td_Mo_step 32 rfl) lf_Mo_50 rfl rfl rfl ?_
            refine pw_iload_n 1 (px_at td_Mo_step 33 rfl) rfl rfl ?_
            obtain ⟨hi2, h⟩ := px_gd_e h
            refine pw_ial (px_at td_Mo_step 34 rfl) rfl hi2 rfl ?_
            refine pw_goto 63 (px_at td_Mo_step 35 rfl) (by decide) ?_
            obtain rfl := Option.some.inj h
            exact pw_iret (px_at td_Mo_step 37 rfl) rfl (Nat.le_refl 0) (Nat.le_refl 0) hR
          · refine pw_icmp_ne 62 (px_at td_Mo_step 30 rfl) (by decide) (fun _ => ?_) (fun hn => absurd hn hc3)
            refine pw_iconst (v := (-1)) (px_at td_Mo_step 36 rfl) (by decide) ?_
            obtain rfl := Option.some.inj h
            exact pw_iret (px_at td_Mo_step 37 rfl) rfl (Nat.le_refl 0) (Nat.le_refl 0) hR
    · refine pw_icmp_lt 21 (px_at td_Mo_step 10 rfl) (by decide) (fun hn => absurd hn hc8) (fun _ => ?_)
      refine pw_L [] [] rfl ?_
      exact Mo_step_n19_l h hR
theorem k_Mo_step {l : Launch} {ids : List pxI} {σ : pxS} {v1 : Int32} {v2 : Int32} {res : Int32 × pxS} (h : F_Mo_step σ v1 v2 = some res) : pm l y_Mo_step c_Mo_step 3 (some .int) (px_R 1) [.inr (some (0, 0, 0)), .inl v1, .inl v2] ids mG σ (px_r (some (.inl res.1)) ids mG res.2) :=
  pm_ofF (by decide +kernel) (Nat.le_of_ble_eq_true rfl) (e_Mo_step h ⟨rfl, rfl, rfl, rfl⟩)
/-! Mo_why -/
def F_Mo_why (σ : pxS) (v1 : Int32) : Option (Int32 × pxS) :=
  px_l (px_up σ (0, 0, 0) 0 0) fun σ1 =>
  px_b1 (F_Mo_isRail σ1 v1) fun r2 =>
  (if r2 = 0 then some ((-1), σ1) else px_b1 (F_Mo_state σ1 v1) fun r3 =>
  (if r3 = 1 then px_b1 (F_Mo_whyNot σ1 v1) fun r4 =>
  some (r4, σ1) else some ((-2), σ1)))
set_option maxRecDepth 100000 in
theorem e_Mo_why {l : Launch} {ids : List pxI} {Rt : Option pxV → List pxI → pxG → pxS → Prop} {σ : pxS} {v1 : Int32} {res : Int32 × pxS} (h : F_Mo_why σ v1 = some res) (hR : Rt (some (.inl res.1)) ids mG res.2) : pw l (px_R 4) y_Mo_why c_Mo_why 2 (some .int) 0 [(0, .inr (some (0, 0, 0))), (1, .inl v1)] [] ids mG σ 0 0 Rt := by
  unfold F_Mo_why at h
  refine pw_aload_n 0 (px_at td_Mo_why 0 rfl) rfl rfl ?_
  refine pw_iconst (v := 0) (px_at td_Mo_why 1 rfl) (by decide) ?_
  obtain ⟨σ1, hσ1, h⟩ := px_l_e h
  refine pw_puti (px_at td_Mo_why 2 rfl) lw_Mo_99 rfl rfl (pw_s hσ1 ?_)
  refine pw_aload_n 0 (px_at td_Mo_why 3 rfl) rfl rfl ?_
  refine pw_iload_n 1 (px_at td_Mo_why 4 rfl) rfl rfl ?_
  obtain ⟨r2, hk2, h⟩ := px_b1_e h
  refine pw_cV1 (0, 0, 0) [.inl v1] [] (px_at td_Mo_why 5 rfl) lV_Mo_300 rfl rfl rfl (Nat.le_of_ble_eq_true rfl) (by decide) (k_Mo_isRail hk2) ?_
  rcases px_ite h with ⟨hc6, h⟩ | ⟨hc6, h⟩
  · refine pw_if_ne 15 (px_at td_Mo_why 6 rfl) (by decide) (fun hn => absurd hc6 hn) (fun _ => ?_)
    refine pw_iconst (v := (-1)) (px_at td_Mo_why 7 rfl) (by decide) ?_
    obtain rfl := Option.some.inj h
    exact pw_iret (px_at td_Mo_why 8 rfl) rfl (Nat.le_refl 0) (Nat.le_refl 0) hR
  · refine pw_if_ne 15 (px_at td_Mo_why 6 rfl) (by decide) (fun _ => ?_) (fun hn => absurd hn hc6)
    refine pw_aload_n 0 (px_at td_Mo_why 9 rfl) rfl rfl ?_
    refine pw_iload_n 1 (px_at td_Mo_why 10 rfl) rfl rfl ?_
    obtain ⟨r3, hk3, h⟩ := px_b1_e h
    refine pw_cV1 (0, 0, 0) [.inl v1] [] (px_at td_Mo_why 11 rfl) lV_Mo_230 rfl rfl rfl (Nat.le_of_ble_eq_true rfl) (by decide) (k_Mo_state hk3) ?_
    refine pw_iconst (v := 1) (px_at td_Mo_why 12 rfl) (by decide) ?_
    rcases px_ite h with ⟨hc5, h⟩ | ⟨hc5, h⟩
    · refine pw_icmp_ne 32 (px_at td_Mo_why 13 rfl) (by decide) (fun hn => absurd hc5 hn) (fun _ => ?_)
      refine pw_aload_n 0 (px_at td_Mo_why 14 rfl) rfl rfl ?_
      refine pw_iload_n 1 (px_at td_Mo_why 15 rfl) rfl rfl ?_
      obtain ⟨r4, hk4, h⟩ := px_b1_e h
      refine pw_cV1 (0, 0, 0) [.inl v1] [] (px_at td_Mo_why 16 rfl) lV_Mo_273 rfl rfl rfl (Nat.le_of_ble_eq_true rfl) (by decide) (k_Mo_whyNot hk4) ?_
      refine pw_goto 34 (px_at td_Mo_why 17 rfl) (by decide) ?_
      obtain rfl := Option.some.inj h
      exact pw_iret (px_at td_Mo_why 19 rfl) rfl (Nat.le_refl 0) (Nat.le_refl 0) hR
    · refine pw_icmp_ne 32 (px_at td_Mo_why 13 rfl) (by decide) (fun _ => ?_) (fun hn => absurd hn hc5)
      refine pw_bipush (v := (-2)) (px_at td_Mo_why 18 rfl) (by decide) ?_
      obtain rfl := Option.some.inj h
      exact pw_iret (px_at td_Mo_why 19 rfl) rfl (Nat.le_refl 0) (Nat.le_refl 0) hR
theorem k_Mo_why {l : Launch} {ids : List pxI} {σ : pxS} {v1 : Int32} {res : Int32 × pxS} (h : F_Mo_why σ v1 = some res) : pm l y_Mo_why c_Mo_why 2 (some .int) (px_R 4) [.inr (some (0, 0, 0)), .inl v1] ids mG σ (px_r (some (.inl res.1)) ids mG res.2) :=
  pm_ofF (by decide +kernel) (Nat.le_of_ble_eq_true rfl) (e_Mo_why h ⟨rfl, rfl, rfl, rfl⟩)
/-! Mo_total -/
def F_Mo_total (σ : pxS)  : Option (Int32 × pxS) :=
  px_l (px_up σ (0, 0, 0) 0 0) fun σ1 =>
  some ((σ1 (1, 28, 0) 186), σ1)
set_option maxRecDepth 100000 in
theorem e_Mo_total {l : Launch} {ids : List pxI} {Rt : Option pxV → List pxI → pxG → pxS → Prop} {σ : pxS}  {res : Int32 × pxS} (h : F_Mo_total σ  = some res) (hR : Rt (some (.inl res.1)) ids mG res.2) : pw l (px_R 1) y_Mo_total c_Mo_total 1 (some .int) 0 [(0, .inr (some (0, 0, 0)))] [] ids mG σ 0 0 Rt := by
  unfold F_Mo_total at h
  refine pw_aload_n 0 (px_at td_Mo_total 0 rfl) rfl rfl ?_
  refine pw_iconst (v := 0) (px_at td_Mo_total 1 rfl) (by decide) ?_
  obtain ⟨σ1, hσ1, h⟩ := px_l_e h
  refine pw_puti (px_at td_Mo_total 2 rfl) lw_Mo_99 rfl rfl (pw_s hσ1 ?_)
  refine pw_aload_n 0 (px_at td_Mo_total 3 rfl) rfl rfl ?_
  refine pw_getf (v := .inr (some (1, 28, 0))) (px_at td_Mo_total 4 rfl) lf_Mo_63 rfl rfl rfl ?_
  refine pw_sipush (v := 186) (px_at td_Mo_total 5 rfl) (by decide) ?_
  refine pw_ial (px_at td_Mo_total 6 rfl) rfl (px_inL (by decide) px_z186 (by decide)) px_z186 ?_
  obtain rfl := Option.some.inj h
  exact pw_iret (px_at td_Mo_total 7 rfl) rfl (Nat.le_refl 0) (Nat.le_refl 0) hR
theorem k_Mo_total {l : Launch} {ids : List pxI} {σ : pxS}  {res : Int32 × pxS} (h : F_Mo_total σ  = some res) : pm l y_Mo_total c_Mo_total 1 (some .int) (px_R 1) [.inr (some (0, 0, 0))] ids mG σ (px_r (some (.inl res.1)) ids mG res.2) :=
  pm_ofF (by decide +kernel) (Nat.le_of_ble_eq_true rfl) (e_Mo_total h ⟨rfl, rfl, rfl, rfl⟩)
/-! Mo_log -/
def Mo_log_n47 (σ : pxS)  : Option (Int32 × pxS) :=
  some ((-1), σ)
set_option maxRecDepth 100000 in
theorem Mo_log_n47_l {l : Launch} {ids : List pxI} {Rt : Option pxV → List pxI → pxG → pxS → Prop} {σ : pxS}  {res : Int32 × pxS} (h : Mo_log_n47 σ  = some res) (hR : Rt (some (.inl res.1)) ids mG res.2) : pw l (px_R 1) y_Mo_log c_Mo_log 3 (some .int) 47 [] [] ids mG σ 0 0 Rt := by
  unfold Mo_log_n47 at h
  refine pw_iconst (v := (-1)) (px_at td_Mo_log 27 rfl) (by decide) ?_
  obtain rfl := Option.some.inj h
  exact pw_iret (px_at td_Mo_log 28 rfl) rfl (Nat.le_refl 0) (Nat.le_refl 0) hR
def F_Mo_log (σ : pxS) (v1 : Int32) (v2 : Int32) : Option (Int32 × pxS) :=
  px_l (px_up σ (0, 0, 0) 0 0) fun σ1 =>
  (if v1 < 0 then Mo_log_n47 σ1  else (if (σ1 (1, 28, 0) 187) ≤ v1 then Mo_log_n47 σ1  else (if v2 < 0 then Mo_log_n47 σ1  else (if 2 < v2 then Mo_log_n47 σ1  else px_gd ((188 + (3 * v1)) + v2) 308 (some ((σ1 (1, 28, 0) ((188 + (3 * v1)) + v2).toNatClampNeg), σ1))))))
set_option maxRecDepth 100000 in
theorem e_Mo_log {l : Launch} {ids : List pxI} {Rt : Option pxV → List pxI → pxG → pxS → Prop} {σ : pxS} {v1 : Int32} {v2 : Int32} {res : Int32 × pxS} (h : F_Mo_log σ v1 v2 = some res) (hR : Rt (some (.inl res.1)) ids mG res.2) : pw l (px_R 1) y_Mo_log c_Mo_log 3 (some .int) 0 [(0, .inr (some (0, 0, 0))), (1, .inl v1), (2, .inl v2)] [] ids mG σ 0 0 Rt := by
  unfold F_Mo_log at h
  refine pw_aload_n 0 (px_at td_Mo_log 0 rfl) rfl rfl ?_
  refine pw_iconst (v := 0) (px_at td_Mo_log 1 rfl) (by decide) ?_
  obtain ⟨σ1, hσ1, h⟩ := px_l_e h
  refine pw_puti (px_at td_Mo_log 2 rfl) lw_Mo_99 rfl rfl (pw_s hσ1 ?_)
  refine pw_iload_n 1 (px_at td_Mo_log 3 rfl) rfl rfl ?_
  rcases px_ite h with ⟨hc6, h⟩ | ⟨hc6, h⟩
  · refine pw_if_lt 47 (px_at td_Mo_log 4 rfl) (by decide) (fun _ => ?_) (fun hn => absurd hc6 hn)
    refine pw_L [] [] rfl ?_
    exact Mo_log_n47_l h hR
  · refine pw_if_lt 47 (px_at td_Mo_log 4 rfl) (by decide) (fun hn => absurd hn hc6) (fun _ => ?_)
    refine pw_iload_n 1 (px_at td_Mo_log 5 rfl) rfl rfl ?_
    refine pw_aload_n 0 (px_at td_Mo_log 6 rfl) rfl rfl ?_
    refine pw_getf (v := .inr (some (1, 28, 0))) (px_at td_Mo_log 7 rfl) lf_Mo_63 rfl rfl rfl ?_
    refine pw_sipush (v := 187) (px_at td_Mo_log 8 rfl) (by decide) ?_
    refine pw_ial (px_at td_Mo_log 9 rfl) rfl (px_inL (by decide) px_z187 (by decide)) px_z187 ?_
    rcases px_ite h with ⟨hc5, h⟩ | ⟨hc5, h⟩
    · refine pw_icmp_ge 47 (px_at td_Mo_log 10 rfl) (by decide) (fun _ => ?_) (fun hn => absurd hc5 hn)
      refine pw_L [] [] rfl ?_
      exact Mo_log_n47_l h hR
    · refine pw_icmp_ge 47 (px_at td_Mo_log 10 rfl) (by decide) (fun hn => absurd hn hc5) (fun _ => ?_)
      refine pw_iload_n 2 (px_at td_Mo_log 11 rfl) rfl rfl ?_
      rcases px_ite h with ⟨hc4, h⟩ | ⟨hc4, h⟩
      · refine pw_if_lt 47 (px_at td_Mo_log 12 rfl) (by decide) (fun _ => ?_) (fun hn => absurd hc4 hn)
        refine pw_L [] [] rfl ?_
        exact Mo_log_n47_l h hR
      · refine pw_if_lt 47 (px_at td_Mo_log 12 rfl) (by decide) (fun hn => absurd hn hc4) (fun _ => ?_)
        refine pw_iload_n 2 (px_at td_Mo_log 13 rfl) rfl rfl ?_
        refine pw_iconst (v := 2) (px_at td_Mo_log 14 rfl) (by decide) ?_
        rcases px_ite h with ⟨hc3, h⟩ | ⟨hc3, h⟩
        · refine pw_icmp_gt 47 (px_at td_Mo_log 15 rfl) (by decide) (fun _ => ?_) (fun hn => absurd hc3 hn)
          refine pw_L [] [] rfl ?_
          exact Mo_log_n47_l h hR
        · refine pw_icmp_gt 47 (px_at td_Mo_log 15 rfl) (by decide) (fun hn => absurd hn hc3) (fun _ => ?_)
          refine pw_aload_n 0 (px_at td_Mo_log 16 rfl) rfl rfl ?_
          refine pw_getf (v := .inr (some (1, 28, 0))) (px_at td_Mo_log 17 rfl) lf_Mo_63 rfl rfl rfl ?_
          refine pw_sipush (v := 188) (px_at td_Mo_log 18 rfl) (by decide) ?_
          refine pw_iconst (v := 3) (px_at td_Mo_log 19 rfl) (by decide) ?_
          refine pw_iload_n 1 (px_at td_Mo_log 20 rfl) rfl rfl ?_
          refine pw_imul (px_at td_Mo_log 21 rfl) ?_
          refine pw_iadd (px_at td_Mo_log 22 rfl) ?_
          refine pw_iload_n 2 (px_at td_Mo_log 23 rfl) rfl rfl ?_
          refine pw_iadd (px_at td_Mo_log 24 rfl) ?_
          obtain ⟨hi2, h⟩ := px_gd_e h
          refine pw_ial (px_at td_Mo_log 25 rfl) rfl hi2 rfl ?_
          refine pw_goto 48 (px_at td_Mo_log 26 rfl) (by decide) ?_
          obtain rfl := Option.some.inj h
          exact pw_iret (px_at td_Mo_log 28 rfl) rfl (Nat.le_refl 0) (Nat.le_refl 0) hR
theorem k_Mo_log {l : Launch} {ids : List pxI} {σ : pxS} {v1 : Int32} {v2 : Int32} {res : Int32 × pxS} (h : F_Mo_log σ v1 v2 = some res) : pm l y_Mo_log c_Mo_log 3 (some .int) (px_R 1) [.inr (some (0, 0, 0)), .inl v1, .inl v2] ids mG σ (px_r (some (.inl res.1)) ids mG res.2) :=
  pm_ofF (by decide +kernel) (Nat.le_of_ble_eq_true rfl) (e_Mo_log h ⟨rfl, rfl, rfl, rfl⟩)
/-! Mo_inRings -/
def Mo_inRings_n4 (σ : pxS) (v1 : Int32) (v2 : Int32) : Option ((Int32 × Int32) ⊕ (Int32)) :=
  px_b1 (F_Mo_rails σ ) fun r1 =>
  (if r1 ≤ v2 then some (.inr v1) else px_gd v2 12 (some (.inl ((v1 ||| ((σ (1, 27, 0) v2.toNatClampNeg) &&& (1 <<< (v2 &&& 31)))), (v2 + 1)))))
set_option maxRecDepth 100000 in
theorem Mo_inRings_n4_l {l : Launch} {ids : List pxI} {Rt : Option pxV → List pxI → pxG → pxS → Prop} {σ : pxS} {v1 : Int32} {v2 : Int32} {o : (Int32 × Int32) ⊕ (Int32)} (h : Mo_inRings_n4 σ v1 v2 = some o) (hC : ∀ s, o = .inl s → pw l (px_R 2) y_Mo_inRings c_Mo_inRings 3 (some .int) 4 [(0, .inr (some (0, 0, 0))), (1, .inl s.1), (2, .inl s.2)] [] ids mG σ 0 0 Rt) (hX0 : ∀ e, o = .inr e → pw l (px_R 2) y_Mo_inRings c_Mo_inRings 3 (some .int) 31 [(1, .inl e)] [] ids mG σ 0 0 Rt) : pw l (px_R 2) y_Mo_inRings c_Mo_inRings 3 (some .int) 4 [(0, .inr (some (0, 0, 0))), (1, .inl v1), (2, .inl v2)] [] ids mG σ 0 0 Rt := by
  unfold Mo_inRings_n4 at h
  refine pw_iload_n 2 (px_at td_Mo_inRings 4 rfl) rfl rfl ?_
  refine pw_aload_n 0 (px_at td_Mo_inRings 5 rfl) rfl rfl ?_
  obtain ⟨r1, hk1, h⟩ := px_b1_e h
  refine pw_cV1 (0, 0, 0) [] [.inl v2] (px_at td_Mo_inRings 6 rfl) lV_Mo_223 rfl rfl rfl (Nat.le_of_ble_eq_true rfl) (by decide) (k_Mo_rails hk1) ?_
  rcases px_ite h with ⟨hc3, h⟩ | ⟨hc3, h⟩
  · refine pw_icmp_ge 31 (px_at td_Mo_inRings 7 rfl) (by decide) (fun _ => ?_) (fun hn => absurd hc3 hn)
    refine pw_L [(1, .inl v1)] [1] rfl ?_
    exact hX0 v1 (Option.some.inj h).symm
  · refine pw_icmp_ge 31 (px_at td_Mo_inRings 7 rfl) (by decide) (fun hn => absurd hn hc3) (fun _ => ?_)
    refine pw_iload_n 1 (px_at td_Mo_inRings 8 rfl) rfl rfl ?_
    refine pw_aload_n 0 (px_at td_Mo_inRings 9 rfl) rfl rfl ?_
    refine pw_getf (v := .inr (some (1, 27, 0))) (px_at td_Mo_inRings 10 rfl) lf_Mo_60 rfl rfl rfl ?_
    refine pw_iload_n 2 (px_at td_Mo_inRings 11 rfl) rfl rfl ?_
    obtain ⟨hi2, h⟩ := px_gd_e h
    refine pw_ial (px_at td_Mo_inRings 12 rfl) rfl hi2 rfl ?_
    refine pw_iconst (v := 1) (px_at td_Mo_inRings 13 rfl) (by decide) ?_
    refine pw_iload_n 2 (px_at td_Mo_inRings 14 rfl) rfl rfl ?_
    refine pw_ishl (px_at td_Mo_inRings 15 rfl) ?_
    refine pw_iand (px_at td_Mo_inRings 16 rfl) ?_
    refine pw_ior (px_at td_Mo_inRings 17 rfl) ?_
    refine pw_istore_n (L' := [(1, .inl (v1 ||| ((σ (1, 27, 0) v2.toNatClampNeg) &&& (1 <<< (v2 &&& 31))))), (0, .inr (some (0, 0, 0))), (2, .inl v2)]) (px_at td_Mo_inRings 18 rfl) rfl (by decide) rfl ?_
    refine pw_iinc (q := 2) (v := (v2 + 1)) (L' := [(2, .inl (v2 + 1)), (1, .inl (v1 ||| ((σ (1, 27, 0) v2.toNatClampNeg) &&& (1 <<< (v2 &&& 31))))), (0, .inr (some (0, 0, 0)))]) (px_at td_Mo_inRings 19 rfl) rfl rfl (by decide) rfl ?_
    refine pw_goto 4 (px_at td_Mo_inRings 20 rfl) (by decide) ?_
    refine pw_L [(0, .inr (some (0, 0, 0))), (1, .inl (v1 ||| ((σ (1, 27, 0) v2.toNatClampNeg) &&& (1 <<< (v2 &&& 31))))), (2, .inl (v2 + 1))] [2, 1, 0] rfl ?_
    exact hC ((v1 ||| ((σ (1, 27, 0) v2.toNatClampNeg) &&& (1 <<< (v2 &&& 31)))), (v2 + 1)) (Option.some.inj h).symm
def Mo_inRings_L4 (σ : pxS) : (Int32 × Int32) → Option ((Int32 × Int32) ⊕ (Int32)) := fun s => Mo_inRings_n4 σ s.1 s.2
set_option maxRecDepth 100000 in
theorem Mo_inRings_L4_l {l : Launch} {ids : List pxI} {Rt : Option pxV → List pxI → pxG → pxS → Prop} {σ : pxS} {n : Nat} {s : Int32 × Int32} {e : Int32} (h : px_it (Mo_inRings_L4 σ) n s = some e) (hX0 : pw l (px_R 2) y_Mo_inRings c_Mo_inRings 3 (some .int) 31 [(1, .inl e)] [] ids mG σ 0 0 Rt) : pw l (px_R 2) y_Mo_inRings c_Mo_inRings 3 (some .int) 4 [(0, .inr (some (0, 0, 0))), (1, .inl s.1), (2, .inl s.2)] [] ids mG σ 0 0 Rt := by
  refine px_it_rule (f := Mo_inRings_L4 σ) (C := fun s => pw l (px_R 2) y_Mo_inRings c_Mo_inRings 3 (some .int) 4 [(0, .inr (some (0, 0, 0))), (1, .inl s.1), (2, .inl s.2)] [] ids mG σ 0 0 Rt) (X := fun e => (pw l (px_R 2) y_Mo_inRings c_Mo_inRings 3 (some .int) 31 [(1, .inl e)] [] ids mG σ 0 0 Rt)) ?_ ?_ n s e h hX0
  · intro s s1 hf hC
    exact Mo_inRings_n4_l hf (fun s2 hs => by cases hs; exact hC) (fun e he => by cases he)
  · intro s e hf hX
    exact Mo_inRings_n4_l hf (fun s2 hs => by cases hs) (fun e1 he => by cases he; exact hX)
def F_Mo_inRings (σ : pxS)  : Option (Int32) :=
  px_b1 (px_it (Mo_inRings_L4 σ) px_N (0, 0)) fun e4 =>
  some (e4)
set_option maxRecDepth 100000 in
theorem e_Mo_inRings {l : Launch} {ids : List pxI} {Rt : Option pxV → List pxI → pxG → pxS → Prop} {σ : pxS}  {res : Int32} (h : F_Mo_inRings σ  = some res) (hR : Rt (some (.inl res)) ids mG σ) : pw l (px_R 2) y_Mo_inRings c_Mo_inRings 3 (some .int) 0 [(0, .inr (some (0, 0, 0)))] [] ids mG σ 0 0 Rt := by
  unfold F_Mo_inRings at h
  refine pw_iconst (v := 0) (px_at td_Mo_inRings 0 rfl) (by decide) ?_
  refine pw_istore_n (L' := [(1, .inl 0), (0, .inr (some (0, 0, 0)))]) (px_at td_Mo_inRings 1 rfl) rfl (by decide) rfl ?_
  refine pw_iconst (v := 0) (px_at td_Mo_inRings 2 rfl) (by decide) ?_
  refine pw_istore_n (L' := [(2, .inl 0), (1, .inl 0), (0, .inr (some (0, 0, 0)))]) (px_at td_Mo_inRings 3 rfl) rfl (by decide) rfl ?_
  obtain ⟨e4, he4, h⟩ := px_b1_e h
  refine pw_L [(0, .inr (some (0, 0, 0))), (1, .inl 0), (2, .inl 0)] [2, 1, 0] rfl ?_
  refine Mo_inRings_L4_l he4 ?_
  refine pw_iload_n 0 (px_at td_Mo_inRings 21 rfl) rfl rfl ?_
  obtain rfl := Option.some.inj h
  exact pw_iret (px_at td_Mo_inRings 22 rfl) rfl (Nat.le_refl 0) (Nat.le_refl 0) hR
theorem k_Mo_inRings {l : Launch} {ids : List pxI} {σ : pxS}  {res : Int32} (h : F_Mo_inRings σ  = some res) : pm l y_Mo_inRings c_Mo_inRings 3 (some .int) (px_R 2) [.inr (some (0, 0, 0))] ids mG σ (px_r (some (.inl res)) ids mG σ) :=
  pm_ofF (by decide +kernel) (Nat.le_of_ble_eq_true rfl) (e_Mo_inRings h ⟨rfl, rfl, rfl, rfl⟩)
/-! Mo_laysSteps -/
def Mo_laysSteps_n2 (σ : pxS) (v1 : Int32) (v2 : Int32) : Option ((Int32 × pxS) ⊕ (pxS)) :=
  px_b1 (F_Mo_rails σ ) fun r1 =>
  (if r1 ≤ v2 then some (.inr σ) else px_gd v2 12 ((if (((σ (1, 26, 0) v2.toNatClampNeg) >>> (v1 &&& 31)) &&& 1) = 1 then px_gd v2 12 (px_l (px_up σ (1, 36, 0) v2.toNatClampNeg 1) fun σ6 =>
  some (.inl ((v2 + 1), σ6))) else px_gd v2 12 (px_l (px_up σ (1, 36, 0) v2.toNatClampNeg (-1)) fun σ4 =>
  some (.inl ((v2 + 1), σ4))))))
set_option maxRecDepth 100000 in
theorem Mo_laysSteps_n2_l {l : Launch} {ids : List pxI} {Rt : Option pxV → List pxI → pxG → pxS → Prop} {σ : pxS} {v1 : Int32} {v2 : Int32} {o : (Int32 × pxS) ⊕ (pxS)} (h : Mo_laysSteps_n2 σ v1 v2 = some o) (hC : ∀ s, o = .inl s → pw l (px_R 2) y_Mo_laysSteps c_Mo_laysSteps 5 none 2 [(0, .inr (some (0, 0, 0))), (1, .inl v1), (2, .inl s.1)] [] ids mG s.2 0 0 Rt) (hX0 : ∀ e, o = .inr e → pw l (px_R 2) y_Mo_laysSteps c_Mo_laysSteps 5 none 41 [(0, .inr (some (0, 0, 0))), (1, .inl v1)] [] ids mG e 0 0 Rt) : pw l (px_R 2) y_Mo_laysSteps c_Mo_laysSteps 5 none 2 [(0, .inr (some (0, 0, 0))), (1, .inl v1), (2, .inl v2)] [] ids mG σ 0 0 Rt := by
  unfold Mo_laysSteps_n2 at h
  refine pw_iload_n 2 (px_at td_Mo_laysSteps 2 rfl) rfl rfl ?_
  refine pw_aload_n 0 (px_at td_Mo_laysSteps 3 rfl) rfl rfl ?_
  obtain ⟨r1, hk1, h⟩ := px_b1_e h
  refine pw_cV1 (0, 0, 0) [] [.inl v2] (px_at td_Mo_laysSteps 4 rfl) lV_Mo_223 rfl rfl rfl (Nat.le_of_ble_eq_true rfl) (by decide) (k_Mo_rails hk1) ?_
  rcases px_ite h with ⟨hc8, h⟩ | ⟨hc8, h⟩
  · refine pw_icmp_ge 41 (px_at td_Mo_laysSteps 5 rfl) (by decide) (fun _ => ?_) (fun hn => absurd hc8 hn)
    refine pw_L [(0, .inr (some (0, 0, 0))), (1, .inl v1)] [0, 1] rfl ?_
    exact hX0 σ (Option.some.inj h).symm
  · refine pw_icmp_ge 41 (px_at td_Mo_laysSteps 5 rfl) (by decide) (fun hn => absurd hn hc8) (fun _ => ?_)
    refine pw_aload_n 0 (px_at td_Mo_laysSteps 6 rfl) rfl rfl ?_
    refine pw_getf (v := .inr (some (1, 36, 0))) (px_at td_Mo_laysSteps 7 rfl) lf_Mo_81 rfl rfl rfl ?_
    refine pw_iload_n 2 (px_at td_Mo_laysSteps 8 rfl) rfl rfl ?_
    refine pw_aload_n 0 (px_at td_Mo_laysSteps 9 rfl) rfl rfl ?_
    refine pw_getf (v := .inr (some (1, 26, 0))) (px_at td_Mo_laysSteps 10 rfl) lf_Mo_57 rfl rfl rfl ?_
    refine pw_iload_n 2 (px_at td_Mo_laysSteps 11 rfl) rfl rfl ?_
    obtain ⟨hi2, h⟩ := px_gd_e h
    refine pw_ial (px_at td_Mo_laysSteps 12 rfl) rfl hi2 rfl ?_
    refine pw_iload_n 1 (px_at td_Mo_laysSteps 13 rfl) rfl rfl ?_
    refine pw_ishr (px_at td_Mo_laysSteps 14 rfl) ?_
    refine pw_iconst (v := 1) (px_at td_Mo_laysSteps 15 rfl) (by decide) ?_
    refine pw_iand (px_at td_Mo_laysSteps 16 rfl) ?_
    refine pw_iconst (v := 1) (px_at td_Mo_laysSteps 17 rfl) (by decide) ?_
    rcases px_ite h with ⟨hc7, h⟩ | ⟨hc7, h⟩
    · refine pw_icmp_ne 33 (px_at td_Mo_laysSteps 18 rfl) (by decide) (fun hn => absurd hc7 hn) (fun _ => ?_)
      refine pw_iconst (v := 1) (px_at td_Mo_laysSteps 19 rfl) (by decide) ?_
      refine pw_goto 34 (px_at td_Mo_laysSteps 20 rfl) (by decide) ?_
      obtain ⟨hi5, h⟩ := px_gd_e h
      obtain ⟨σ6, hσ6, h⟩ := px_l_e h
      refine pw_ias (px_at td_Mo_laysSteps 22 rfl) rfl hi5 rfl hσ6 ?_
      refine pw_iinc (q := 2) (v := (v2 + 1)) (L' := [(2, .inl (v2 + 1)), (0, .inr (some (0, 0, 0))), (1, .inl v1)]) (px_at td_Mo_laysSteps 23 rfl) rfl rfl (by decide) rfl ?_
      refine pw_goto 2 (px_at td_Mo_laysSteps 24 rfl) (by decide) ?_
      refine pw_L [(0, .inr (some (0, 0, 0))), (1, .inl v1), (2, .inl (v2 + 1))] [1, 2, 0] rfl ?_
      exact hC ((v2 + 1), σ6) (Option.some.inj h).symm
    · refine pw_icmp_ne 33 (px_at td_Mo_laysSteps 18 rfl) (by decide) (fun _ => ?_) (fun hn => absurd hn hc7)
      refine pw_iconst (v := (-1)) (px_at td_Mo_laysSteps 21 rfl) (by decide) ?_
      obtain ⟨hi3, h⟩ := px_gd_e h
      obtain ⟨σ4, hσ4, h⟩ := px_l_e h
      refine pw_ias (px_at td_Mo_laysSteps 22 rfl) rfl hi3 rfl hσ4 ?_
      refine pw_iinc (q := 2) (v := (v2 + 1)) (L' := [(2, .inl (v2 + 1)), (0, .inr (some (0, 0, 0))), (1, .inl v1)]) (px_at td_Mo_laysSteps 23 rfl) rfl rfl (by decide) rfl ?_
      refine pw_goto 2 (px_at td_Mo_laysSteps 24 rfl) (by decide) ?_
      refine pw_L [(0, .inr (some (0, 0, 0))), (1, .inl v1), (2, .inl (v2 + 1))] [1, 2, 0] rfl ?_
      exact hC ((v2 + 1), σ4) (Option.some.inj h).symm
def Mo_laysSteps_L2 (v1 : Int32) : (Int32 × pxS) → Option ((Int32 × pxS) ⊕ (pxS)) := fun s => Mo_laysSteps_n2 s.2 v1 s.1
set_option maxRecDepth 100000 in
theorem Mo_laysSteps_L2_l {l : Launch} {ids : List pxI} {Rt : Option pxV → List pxI → pxG → pxS → Prop} {v1 : Int32} {n : Nat} {s : Int32 × pxS} {e : pxS} (h : px_it (Mo_laysSteps_L2 v1) n s = some e) (hX0 : pw l (px_R 2) y_Mo_laysSteps c_Mo_laysSteps 5 none 41 [(0, .inr (some (0, 0, 0))), (1, .inl v1)] [] ids mG e 0 0 Rt) : pw l (px_R 2) y_Mo_laysSteps c_Mo_laysSteps 5 none 2 [(0, .inr (some (0, 0, 0))), (1, .inl v1), (2, .inl s.1)] [] ids mG s.2 0 0 Rt := by
  refine px_it_rule (f := Mo_laysSteps_L2 v1) (C := fun s => pw l (px_R 2) y_Mo_laysSteps c_Mo_laysSteps 5 none 2 [(0, .inr (some (0, 0, 0))), (1, .inl v1), (2, .inl s.1)] [] ids mG s.2 0 0 Rt) (X := fun e => (pw l (px_R 2) y_Mo_laysSteps c_Mo_laysSteps 5 none 41 [(0, .inr (some (0, 0, 0))), (1, .inl v1)] [] ids mG e 0 0 Rt)) ?_ ?_ n s e h hX0
  · intro s s1 hf hC
    exact Mo_laysSteps_n2_l hf (fun s2 hs => by cases hs; exact hC) (fun e he => by cases he)
  · intro s e hf hX
    exact Mo_laysSteps_n2_l hf (fun s2 hs => by cases hs) (fun e1 he => by cases he; exact hX)
def Mo_laysSteps_n124 (σ : pxS) (v1 : Int32) (v2 : Int32) (v3 : Int32) (v4 : Int32) : Option ((Int32 × pxS) ⊕ (pxS)) :=
  some (.inl ((v4 + 1), σ))
set_option maxRecDepth 100000 in
theorem Mo_laysSteps_n124_l {l : Launch} {ids : List pxI} {Rt : Option pxV → List pxI → pxG → pxS → Prop} {σ : pxS} {v1 : Int32} {v2 : Int32} {v3 : Int32} {v4 : Int32} {o : (Int32 × pxS) ⊕ (pxS)} (h : Mo_laysSteps_n124 σ v1 v2 v3 v4 = some o) (hC : ∀ s, o = .inl s → pw l (px_R 2) y_Mo_laysSteps c_Mo_laysSteps 5 none 64 [(0, .inr (some (0, 0, 0))), (1, .inl v1), (2, .inl v2), (3, .inl v3), (4, .inl s.1)] [] ids mG s.2 0 0 Rt) (hX0 : ∀ e, o = .inr e → pw l (px_R 2) y_Mo_laysSteps c_Mo_laysSteps 5 none 130 [(0, .inr (some (0, 0, 0))), (1, .inl v1), (2, .inl v2), (3, .inl v3)] [] ids mG e 0 0 Rt) : pw l (px_R 2) y_Mo_laysSteps c_Mo_laysSteps 5 none 124 [(0, .inr (some (0, 0, 0))), (1, .inl v1), (2, .inl v2), (3, .inl v3), (4, .inl v4)] [] ids mG σ 0 0 Rt := by
  unfold Mo_laysSteps_n124 at h
  refine pw_iinc (q := 4) (v := (v4 + 1)) (L' := [(4, .inl (v4 + 1)), (0, .inr (some (0, 0, 0))), (1, .inl v1), (2, .inl v2), (3, .inl v3)]) (px_at td_Mo_laysSteps 75 rfl) rfl rfl (by decide) rfl ?_
  refine pw_goto 64 (px_at td_Mo_laysSteps 76 rfl) (by decide) ?_
  refine pw_L [(0, .inr (some (0, 0, 0))), (1, .inl v1), (2, .inl v2), (3, .inl v3), (4, .inl (v4 + 1))] [1, 2, 3, 4, 0] rfl ?_
  exact hC ((v4 + 1), σ) (Option.some.inj h).symm
def Mo_laysSteps_n64 (σ : pxS) (v1 : Int32) (v2 : Int32) (v3 : Int32) (v4 : Int32) : Option ((Int32 × pxS) ⊕ (pxS)) :=
  px_b1 (F_Mo_rails σ ) fun r12 =>
  (if r12 ≤ v4 then some (.inr σ) else px_gd v3 12 ((if (σ (1, 36, 0) v3.toNatClampNeg) = (-1) then (if v4 = v1 then Mo_laysSteps_n124 σ v1 v2 v3 v4 else px_gd v3 12 ((if (((σ (1, 26, 0) v3.toNatClampNeg) >>> (v4 &&& 31)) &&& 1) = 1 then px_gd v4 12 ((if (σ (1, 36, 0) v4.toNatClampNeg) = (v2 - 1) then px_gd v3 12 (px_l (px_up σ (1, 36, 0) v3.toNatClampNeg v2) fun σ17 =>
  Mo_laysSteps_n124 σ17 v1 v2 v3 v4) else Mo_laysSteps_n124 σ v1 v2 v3 v4)) else Mo_laysSteps_n124 σ v1 v2 v3 v4))) else some (.inr σ))))
set_option maxRecDepth 100000 in
theorem Mo_laysSteps_n64_l {l : Launch} {ids : List pxI} {Rt : Option pxV → List pxI → pxG → pxS → Prop} {σ : pxS} {v1 : Int32} {v2 : Int32} {v3 : Int32} {v4 : Int32} {o : (Int32 × pxS) ⊕ (pxS)} (h : Mo_laysSteps_n64 σ v1 v2 v3 v4 = some o) (hC : ∀ s, o = .inl s → pw l (px_R 2) y_Mo_laysSteps c_Mo_laysSteps 5 none 64 [(0, .inr (some (0, 0, 0))), (1, .inl v1), (2, .inl v2), (3, .inl v3), (4, .inl s.1)] [] ids mG s.2 0 0 Rt) (hX0 : ∀ e, o = .inr e → pw l (px_R 2) y_Mo_laysSteps c_Mo_laysSteps 5 none 130 [(0, .inr (some (0, 0, 0))), (1, .inl v1), (2, .inl v2), (3, .inl v3)] [] ids mG e 0 0 Rt) : pw l (px_R 2) y_Mo_laysSteps c_Mo_laysSteps 5 none 64 [(0, .inr (some (0, 0, 0))), (1, .inl v1), (2, .inl v2), (3, .inl v3), (4, .inl v4)] [] ids mG σ 0 0 Rt := by
  unfold Mo_laysSteps_n64 at h
  refine pw_iload 4 (px_at td_Mo_laysSteps 39 rfl) rfl ?_
  refine pw_aload_n 0 (px_at td_Mo_laysSteps 40 rfl) rfl rfl ?_
  obtain ⟨r12, hk12, h⟩ := px_b1_e h
  refine pw_cV1 (0, 0, 0) [] [.inl v4] (px_at td_Mo_laysSteps 41 rfl) lV_Mo_223 rfl rfl rfl (Nat.le_of_ble_eq_true rfl) (by decide) (k_Mo_rails hk12) ?_
  rcases px_ite h with ⟨hc22, h⟩ | ⟨hc22, h⟩
  · refine pw_icmp_ge 130 (px_at td_Mo_laysSteps 42 rfl) (by decide) (fun _ => ?_) (fun hn => absurd hc22 hn)
    refine pw_L [(0, .inr (some (0, 0, 0))), (1, .inl v1), (2, .inl v2), (3, .inl v3)] [0, 1, 2, 3] rfl ?_
    exact hX0 σ (Option.some.inj h).symm
  · refine pw_icmp_ge 130 (px_at td_Mo_laysSteps 42 rfl) (by decide) (fun hn => absurd hn hc22) (fun _ => ?_)
    refine pw_aload_n 0 (px_at td_Mo_laysSteps 43 rfl) rfl rfl ?_
    refine pw_getf (v := .inr (some (1, 36, 0))) (px_at td_Mo_laysSteps 44 rfl) lf_Mo_81 rfl rfl rfl ?_
    refine pw_iload_n 3 (px_at td_Mo_laysSteps 45 rfl) rfl rfl ?_
    obtain ⟨hi13, h⟩ := px_gd_e h
    refine pw_ial (px_at td_Mo_laysSteps 46 rfl) rfl hi13 rfl ?_
    refine pw_iconst (v := (-1)) (px_at td_Mo_laysSteps 47 rfl) (by decide) ?_
    rcases px_ite h with ⟨hc21, h⟩ | ⟨hc21, h⟩
    · refine pw_icmp_ne 130 (px_at td_Mo_laysSteps 48 rfl) (by decide) (fun hn => absurd hc21 hn) (fun _ => ?_)
      refine pw_iload 4 (px_at td_Mo_laysSteps 49 rfl) rfl ?_
      refine pw_iload_n 1 (px_at td_Mo_laysSteps 50 rfl) rfl rfl ?_
      rcases px_ite h with ⟨hc20, h⟩ | ⟨hc20, h⟩
      · refine pw_icmp_eq 124 (px_at td_Mo_laysSteps 51 rfl) (by decide) (fun _ => ?_) (fun hn => absurd hc20 hn)
        exact Mo_laysSteps_n124_l h hC hX0
      · refine pw_icmp_eq 124 (px_at td_Mo_laysSteps 51 rfl) (by decide) (fun hn => absurd hn hc20) (fun _ => ?_)
        refine pw_aload_n 0 (px_at td_Mo_laysSteps 52 rfl) rfl rfl ?_
        refine pw_getf (v := .inr (some (1, 26, 0))) (px_at td_Mo_laysSteps 53 rfl) lf_Mo_57 rfl rfl rfl ?_
        refine pw_iload_n 3 (px_at td_Mo_laysSteps 54 rfl) rfl rfl ?_
        obtain ⟨hi14, h⟩ := px_gd_e h
        refine pw_ial (px_at td_Mo_laysSteps 55 rfl) rfl hi14 rfl ?_
        refine pw_iload 4 (px_at td_Mo_laysSteps 56 rfl) rfl ?_
        refine pw_ishr (px_at td_Mo_laysSteps 57 rfl) ?_
        refine pw_iconst (v := 1) (px_at td_Mo_laysSteps 58 rfl) (by decide) ?_
        refine pw_iand (px_at td_Mo_laysSteps 59 rfl) ?_
        refine pw_iconst (v := 1) (px_at td_Mo_laysSteps 60 rfl) (by decide) ?_
        rcases px_ite h with ⟨hc19, h⟩ | ⟨hc19, h⟩
        · refine pw_icmp_ne 124 (px_at td_Mo_laysSteps 61 rfl) (by decide) (fun hn => absurd hc19 hn) (fun _ => ?_)
          refine pw_aload_n 0 (px_at td_Mo_laysSteps 62 rfl) rfl rfl ?_
          refine pw_getf (v := .inr (some (1, 36, 0))) (px_at td_Mo_laysSteps 63 rfl) lf_Mo_81 rfl rfl rfl ?_
          refine pw_iload 4 (px_at td_Mo_laysSteps 64 rfl) rfl ?_
          obtain ⟨hi15, h⟩ := px_gd_e h
          refine pw_ial (px_at td_Mo_laysSteps 65 rfl) rfl hi15 rfl ?_
          refine pw_iload_n 2 (px_at td_Mo_laysSteps 66 rfl) rfl rfl ?_
          refine pw_iconst (v := 1) (px_at td_Mo_laysSteps 67 rfl) (by decide) ?_
          refine pw_isub (px_at td_Mo_laysSteps 68 rfl) ?_
          rcases px_ite h with ⟨hc18, h⟩ | ⟨hc18, h⟩
          · refine pw_icmp_ne 124 (px_at td_Mo_laysSteps 69 rfl) (by decide) (fun hn => absurd hc18 hn) (fun _ => ?_)
            refine pw_aload_n 0 (px_at td_Mo_laysSteps 70 rfl) rfl rfl ?_
            refine pw_getf (v := .inr (some (1, 36, 0))) (px_at td_Mo_laysSteps 71 rfl) lf_Mo_81 rfl rfl rfl ?_
            refine pw_iload_n 3 (px_at td_Mo_laysSteps 72 rfl) rfl rfl ?_
            refine pw_iload_n 2 (px_at td_Mo_laysSteps 73 rfl) rfl rfl ?_
            obtain ⟨hi16, h⟩ := px_gd_e h
            obtain ⟨σ17, hσ17, h⟩ := px_l_e h
            refine pw_ias (px_at td_Mo_laysSteps 74 rfl) rfl hi16 rfl hσ17 ?_
            exact Mo_laysSteps_n124_l h hC hX0
          · refine pw_icmp_ne 124 (px_at td_Mo_laysSteps 69 rfl) (by decide) (fun _ => ?_) (fun hn => absurd hn hc18)
            exact Mo_laysSteps_n124_l h hC hX0
        · refine pw_icmp_ne 124 (px_at td_Mo_laysSteps 61 rfl) (by decide) (fun _ => ?_) (fun hn => absurd hn hc19)
          exact Mo_laysSteps_n124_l h hC hX0
    · refine pw_icmp_ne 130 (px_at td_Mo_laysSteps 48 rfl) (by decide) (fun _ => ?_) (fun hn => absurd hn hc21)
      refine pw_L [(0, .inr (some (0, 0, 0))), (1, .inl v1), (2, .inl v2), (3, .inl v3)] [0, 1, 2, 3] rfl ?_
      exact hX0 σ (Option.some.inj h).symm
def Mo_laysSteps_L64 (v1 : Int32) (v2 : Int32) (v3 : Int32) : (Int32 × pxS) → Option ((Int32 × pxS) ⊕ (pxS)) := fun s => Mo_laysSteps_n64 s.2 v1 v2 v3 s.1
set_option maxRecDepth 100000 in
theorem Mo_laysSteps_L64_l {l : Launch} {ids : List pxI} {Rt : Option pxV → List pxI → pxG → pxS → Prop} {v1 : Int32} {v2 : Int32} {v3 : Int32} {n : Nat} {s : Int32 × pxS} {e : pxS} (h : px_it (Mo_laysSteps_L64 v1 v2 v3) n s = some e) (hX0 : pw l (px_R 2) y_Mo_laysSteps c_Mo_laysSteps 5 none 130 [(0, .inr (some (0, 0, 0))), (1, .inl v1), (2, .inl v2), (3, .inl v3)] [] ids mG e 0 0 Rt) : pw l (px_R 2) y_Mo_laysSteps c_Mo_laysSteps 5 none 64 [(0, .inr (some (0, 0, 0))), (1, .inl v1), (2, .inl v2), (3, .inl v3), (4, .inl s.1)] [] ids mG s.2 0 0 Rt := by
  refine px_it_rule (f := Mo_laysSteps_L64 v1 v2 v3) (C := fun s => pw l (px_R 2) y_Mo_laysSteps c_Mo_laysSteps 5 none 64 [(0, .inr (some (0, 0, 0))), (1, .inl v1), (2, .inl v2), (3, .inl v3), (4, .inl s.1)] [] ids mG s.2 0 0 Rt) (X := fun e => (pw l (px_R 2) y_Mo_laysSteps c_Mo_laysSteps 5 none 130 [(0, .inr (some (0, 0, 0))), (1, .inl v1), (2, .inl v2), (3, .inl v3)] [] ids mG e 0 0 Rt)) ?_ ?_ n s e h hX0
  · intro s s1 hf hC
    exact Mo_laysSteps_n64_l hf (fun s2 hs => by cases hs; exact hC) (fun e he => by cases he)
  · intro s e hf hX
    exact Mo_laysSteps_n64_l hf (fun s2 hs => by cases hs) (fun e1 he => by cases he; exact hX)
def Mo_laysSteps_n53 (σ : pxS) (v1 : Int32) (v2 : Int32) (v3 : Int32) : Option ((Int32 × pxS) ⊕ (pxS)) :=
  px_b1 (F_Mo_rails σ ) fun r11 =>
  (if r11 ≤ v3 then some (.inr σ) else px_b1 (px_it (Mo_laysSteps_L64 v1 v2 v3) px_N (0, σ)) fun e23 =>
  some (.inl ((v3 + 1), e23)))
set_option maxRecDepth 100000 in
theorem Mo_laysSteps_n53_l {l : Launch} {ids : List pxI} {Rt : Option pxV → List pxI → pxG → pxS → Prop} {σ : pxS} {v1 : Int32} {v2 : Int32} {v3 : Int32} {o : (Int32 × pxS) ⊕ (pxS)} (h : Mo_laysSteps_n53 σ v1 v2 v3 = some o) (hC : ∀ s, o = .inl s → pw l (px_R 2) y_Mo_laysSteps c_Mo_laysSteps 5 none 53 [(0, .inr (some (0, 0, 0))), (1, .inl v1), (2, .inl v2), (3, .inl s.1)] [] ids mG s.2 0 0 Rt) (hX0 : ∀ e, o = .inr e → pw l (px_R 2) y_Mo_laysSteps c_Mo_laysSteps 5 none 136 [(0, .inr (some (0, 0, 0))), (1, .inl v1), (2, .inl v2)] [] ids mG e 0 0 Rt) : pw l (px_R 2) y_Mo_laysSteps c_Mo_laysSteps 5 none 53 [(0, .inr (some (0, 0, 0))), (1, .inl v1), (2, .inl v2), (3, .inl v3)] [] ids mG σ 0 0 Rt := by
  unfold Mo_laysSteps_n53 at h
  refine pw_iload_n 3 (px_at td_Mo_laysSteps 33 rfl) rfl rfl ?_
  refine pw_aload_n 0 (px_at td_Mo_laysSteps 34 rfl) rfl rfl ?_
  obtain ⟨r11, hk11, h⟩ := px_b1_e h
  refine pw_cV1 (0, 0, 0) [] [.inl v3] (px_at td_Mo_laysSteps 35 rfl) lV_Mo_223 rfl rfl rfl (Nat.le_of_ble_eq_true rfl) (by decide) (k_Mo_rails hk11) ?_
  rcases px_ite h with ⟨hc24, h⟩ | ⟨hc24, h⟩
  · refine pw_icmp_ge 136 (px_at td_Mo_laysSteps 36 rfl) (by decide) (fun _ => ?_) (fun hn => absurd hc24 hn)
    refine pw_L [(0, .inr (some (0, 0, 0))), (1, .inl v1), (2, .inl v2)] [0, 1, 2] rfl ?_
    exact hX0 σ (Option.some.inj h).symm
  · refine pw_icmp_ge 136 (px_at td_Mo_laysSteps 36 rfl) (by decide) (fun hn => absurd hn hc24) (fun _ => ?_)
    refine pw_iconst (v := 0) (px_at td_Mo_laysSteps 37 rfl) (by decide) ?_
    refine pw_istore (L' := [(4, .inl 0), (0, .inr (some (0, 0, 0))), (1, .inl v1), (2, .inl v2), (3, .inl v3)]) (px_at td_Mo_laysSteps 38 rfl) (by decide) rfl ?_
    obtain ⟨e23, he23, h⟩ := px_b1_e h
    refine pw_L [(0, .inr (some (0, 0, 0))), (1, .inl v1), (2, .inl v2), (3, .inl v3), (4, .inl 0)] [1, 2, 3, 4, 0] rfl ?_
    refine Mo_laysSteps_L64_l he23 ?_
    refine pw_iinc (q := 3) (v := (v3 + 1)) (L' := [(3, .inl (v3 + 1)), (0, .inr (some (0, 0, 0))), (1, .inl v1), (2, .inl v2)]) (px_at td_Mo_laysSteps 77 rfl) rfl rfl (by decide) rfl ?_
    refine pw_goto 53 (px_at td_Mo_laysSteps 78 rfl) (by decide) ?_
    refine pw_L [(0, .inr (some (0, 0, 0))), (1, .inl v1), (2, .inl v2), (3, .inl (v3 + 1))] [1, 2, 3, 0] rfl ?_
    exact hC ((v3 + 1), e23) (Option.some.inj h).symm
def Mo_laysSteps_L53 (v1 : Int32) (v2 : Int32) : (Int32 × pxS) → Option ((Int32 × pxS) ⊕ (pxS)) := fun s => Mo_laysSteps_n53 s.2 v1 v2 s.1
set_option maxRecDepth 100000 in
theorem Mo_laysSteps_L53_l {l : Launch} {ids : List pxI} {Rt : Option pxV → List pxI → pxG → pxS → Prop} {v1 : Int32} {v2 : Int32} {n : Nat} {s : Int32 × pxS} {e : pxS} (h : px_it (Mo_laysSteps_L53 v1 v2) n s = some e) (hX0 : pw l (px_R 2) y_Mo_laysSteps c_Mo_laysSteps 5 none 136 [(0, .inr (some (0, 0, 0))), (1, .inl v1), (2, .inl v2)] [] ids mG e 0 0 Rt) : pw l (px_R 2) y_Mo_laysSteps c_Mo_laysSteps 5 none 53 [(0, .inr (some (0, 0, 0))), (1, .inl v1), (2, .inl v2), (3, .inl s.1)] [] ids mG s.2 0 0 Rt := by
  refine px_it_rule (f := Mo_laysSteps_L53 v1 v2) (C := fun s => pw l (px_R 2) y_Mo_laysSteps c_Mo_laysSteps 5 none 53 [(0, .inr (some (0, 0, 0))), (1, .inl v1), (2, .inl v2), (3, .inl s.1)] [] ids mG s.2 0 0 Rt) (X := fun e => (pw l (px_R 2) y_Mo_laysSteps c_Mo_laysSteps 5 none 136 [(0, .inr (some (0, 0, 0))), (1, .inl v1), (2, .inl v2)] [] ids mG e 0 0 Rt)) ?_ ?_ n s e h hX0
  · intro s s1 hf hC
    exact Mo_laysSteps_n53_l hf (fun s2 hs => by cases hs; exact hC) (fun e he => by cases he)
  · intro s e hf hX
    exact Mo_laysSteps_n53_l hf (fun s2 hs => by cases hs) (fun e1 he => by cases he; exact hX)
def Mo_laysSteps_n43 (σ : pxS) (v1 : Int32) (v2 : Int32) : Option ((Int32 × pxS) ⊕ (pxS)) :=
  px_b1 (F_Mo_rails σ ) fun r10 =>
  (if r10 < v2 then some (.inr σ) else px_b1 (px_it (Mo_laysSteps_L53 v1 v2) px_N (0, σ)) fun e25 =>
  some (.inl ((v2 + 1), e25)))
set_option maxRecDepth 100000 in
theorem Mo_laysSteps_n43_l {l : Launch} {ids : List pxI} {Rt : Option pxV → List pxI → pxG → pxS → Prop} {σ : pxS} {v1 : Int32} {v2 : Int32} {o : (Int32 × pxS) ⊕ (pxS)} (h : Mo_laysSteps_n43 σ v1 v2 = some o) (hC : ∀ s, o = .inl s → pw l (px_R 2) y_Mo_laysSteps c_Mo_laysSteps 5 none 43 [(0, .inr (some (0, 0, 0))), (1, .inl v1), (2, .inl s.1)] [] ids mG s.2 0 0 Rt) (hX0 : ∀ e, o = .inr e → pw l (px_R 2) y_Mo_laysSteps c_Mo_laysSteps 5 none 142 [] [] ids mG e 0 0 Rt) : pw l (px_R 2) y_Mo_laysSteps c_Mo_laysSteps 5 none 43 [(0, .inr (some (0, 0, 0))), (1, .inl v1), (2, .inl v2)] [] ids mG σ 0 0 Rt := by
  unfold Mo_laysSteps_n43 at h
  refine pw_iload_n 2 (px_at td_Mo_laysSteps 27 rfl) rfl rfl ?_
  refine pw_aload_n 0 (px_at td_Mo_laysSteps 28 rfl) rfl rfl ?_
  obtain ⟨r10, hk10, h⟩ := px_b1_e h
  refine pw_cV1 (0, 0, 0) [] [.inl v2] (px_at td_Mo_laysSteps 29 rfl) lV_Mo_223 rfl rfl rfl (Nat.le_of_ble_eq_true rfl) (by decide) (k_Mo_rails hk10) ?_
  rcases px_ite h with ⟨hc26, h⟩ | ⟨hc26, h⟩
  · refine pw_icmp_gt 142 (px_at td_Mo_laysSteps 30 rfl) (by decide) (fun _ => ?_) (fun hn => absurd hc26 hn)
    refine pw_L [] [] rfl ?_
    exact hX0 σ (Option.some.inj h).symm
  · refine pw_icmp_gt 142 (px_at td_Mo_laysSteps 30 rfl) (by decide) (fun hn => absurd hn hc26) (fun _ => ?_)
    refine pw_iconst (v := 0) (px_at td_Mo_laysSteps 31 rfl) (by decide) ?_
    refine pw_istore_n (L' := [(3, .inl 0), (0, .inr (some (0, 0, 0))), (1, .inl v1), (2, .inl v2)]) (px_at td_Mo_laysSteps 32 rfl) rfl (by decide) rfl ?_
    obtain ⟨e25, he25, h⟩ := px_b1_e h
    refine pw_L [(0, .inr (some (0, 0, 0))), (1, .inl v1), (2, .inl v2), (3, .inl 0)] [1, 2, 3, 0] rfl ?_
    refine Mo_laysSteps_L53_l he25 ?_
    refine pw_iinc (q := 2) (v := (v2 + 1)) (L' := [(2, .inl (v2 + 1)), (0, .inr (some (0, 0, 0))), (1, .inl v1)]) (px_at td_Mo_laysSteps 79 rfl) rfl rfl (by decide) rfl ?_
    refine pw_goto 43 (px_at td_Mo_laysSteps 80 rfl) (by decide) ?_
    refine pw_L [(0, .inr (some (0, 0, 0))), (1, .inl v1), (2, .inl (v2 + 1))] [1, 2, 0] rfl ?_
    exact hC ((v2 + 1), e25) (Option.some.inj h).symm
def Mo_laysSteps_L43 (v1 : Int32) : (Int32 × pxS) → Option ((Int32 × pxS) ⊕ (pxS)) := fun s => Mo_laysSteps_n43 s.2 v1 s.1
set_option maxRecDepth 100000 in
theorem Mo_laysSteps_L43_l {l : Launch} {ids : List pxI} {Rt : Option pxV → List pxI → pxG → pxS → Prop} {v1 : Int32} {n : Nat} {s : Int32 × pxS} {e : pxS} (h : px_it (Mo_laysSteps_L43 v1) n s = some e) (hX0 : pw l (px_R 2) y_Mo_laysSteps c_Mo_laysSteps 5 none 142 [] [] ids mG e 0 0 Rt) : pw l (px_R 2) y_Mo_laysSteps c_Mo_laysSteps 5 none 43 [(0, .inr (some (0, 0, 0))), (1, .inl v1), (2, .inl s.1)] [] ids mG s.2 0 0 Rt := by
  refine px_it_rule (f := Mo_laysSteps_L43 v1) (C := fun s => pw l (px_R 2) y_Mo_laysSteps c_Mo_laysSteps 5 none 43 [(0, .inr (some (0, 0, 0))), (1, .inl v1), (2, .inl s.1)] [] ids mG s.2 0 0 Rt) (X := fun e => (pw l (px_R 2) y_Mo_laysSteps c_Mo_laysSteps 5 none 142 [] [] ids mG e 0 0 Rt)) ?_ ?_ n s e h hX0
  · intro s s1 hf hC
    exact Mo_laysSteps_n43_l hf (fun s2 hs => by cases hs; exact hC) (fun e he => by cases he)
  · intro s e hf hX
    exact Mo_laysSteps_n43_l hf (fun s2 hs => by cases hs) (fun e1 he => by cases he; exact hX)
def F_Mo_laysSteps (σ : pxS) (v1 : Int32) : Option (pxS) :=
  px_b1 (px_it (Mo_laysSteps_L2 v1) px_N (0, σ)) fun e9 =>
  px_b1 (px_it (Mo_laysSteps_L43 v1) px_N (2, e9)) fun e27 =>
  some e27
set_option maxRecDepth 100000 in
theorem e_Mo_laysSteps {l : Launch} {ids : List pxI} {Rt : Option pxV → List pxI → pxG → pxS → Prop} {σ : pxS} {v1 : Int32} {res : pxS} (h : F_Mo_laysSteps σ v1 = some res) (hR : Rt none ids mG res) : pw l (px_R 2) y_Mo_laysSteps c_Mo_laysSteps 5 none 0 [(0, .inr (some (0, 0, 0))), (1, .inl v1)] [] ids mG σ 0 0 Rt := by
  unfold F_Mo_laysSteps at h
  refine pw_iconst (v := 0) (px_at td_Mo_laysSteps 0 rfl) (by decide) ?_
  refine pw_istore_n (L' := [(2, .inl 0), (0, .inr (some (0, 0, 0))), (1, .inl v1)]) (px_at td_Mo_laysSteps 1 rfl) rfl (by decide) rfl ?_
  obtain ⟨e9, he9, h⟩ := px_b1_e h
  refine pw_L [(0, .inr (some (0, 0, 0))), (1, .inl v1), (2, .inl 0)] [1, 2, 0] rfl ?_
  refine Mo_laysSteps_L2_l he9 ?_
  refine pw_iconst (v := 2) (px_at td_Mo_laysSteps 25 rfl) (by decide) ?_
  refine pw_istore_n (L' := [(2, .inl 2), (0, .inr (some (0, 0, 0))), (1, .inl v1)]) (px_at td_Mo_laysSteps 26 rfl) rfl (by decide) rfl ?_
  obtain ⟨e27, he27, h⟩ := px_b1_e h
  refine pw_L [(0, .inr (some (0, 0, 0))), (1, .inl v1), (2, .inl 2)] [1, 2, 0] rfl ?_
  refine Mo_laysSteps_L43_l he27 ?_
  obtain rfl := Option.some.inj h
  exact pw_vret (px_at td_Mo_laysSteps 81 rfl) rfl (Nat.le_refl 0) (Nat.le_refl 0) hR
theorem k_Mo_laysSteps {l : Launch} {ids : List pxI} {σ : pxS} {v1 : Int32} {res : pxS} (h : F_Mo_laysSteps σ v1 = some res) : pm l y_Mo_laysSteps c_Mo_laysSteps 5 none (px_R 2) [.inr (some (0, 0, 0)), .inl v1] ids mG σ (px_r none ids mG res) :=
  pm_ofF (by decide +kernel) (Nat.le_of_ble_eq_true rfl) (e_Mo_laysSteps h ⟨rfl, rfl, rfl, rfl⟩)
/-! Mo_laysRing -/
def Mo_laysRing_n17 (σ : pxS) (v1 : Int32) (v2 : Int32) : Option ((Int32) ⊕ (Int32)) :=
  (if ((v1 >>> (v2 &&& 31)) &&& 1) = 0 then some (.inl (v2 + 1)) else some (.inr v2))
set_option maxRecDepth 100000 in
theorem Mo_laysRing_n17_l {l : Launch} {ids : List pxI} {Rt : Option pxV → List pxI → pxG → pxS → Prop} {σ : pxS} {v1 : Int32} {v2 : Int32} {o : (Int32) ⊕ (Int32)} (h : Mo_laysRing_n17 σ v1 v2 = some o) (hC : ∀ s, o = .inl s → pw l (px_R 3) y_Mo_laysRing c_Mo_laysRing 5 none 17 [(0, .inr (some (0, 0, 0))), (1, .inl v1), (2, .inl s)] [] ids mG σ 0 0 Rt) (hX0 : ∀ e, o = .inr e → pw l (px_R 3) y_Mo_laysRing c_Mo_laysRing 5 none 31 [(0, .inr (some (0, 0, 0))), (2, .inl e)] [] ids mG σ 0 0 Rt) : pw l (px_R 3) y_Mo_laysRing c_Mo_laysRing 5 none 17 [(0, .inr (some (0, 0, 0))), (1, .inl v1), (2, .inl v2)] [] ids mG σ 0 0 Rt := by
  unfold Mo_laysRing_n17 at h
  refine pw_iload_n 1 (px_at td_Mo_laysRing 11 rfl) rfl rfl ?_
  refine pw_iload_n 2 (px_at td_Mo_laysRing 12 rfl) rfl rfl ?_
  refine pw_ishr (px_at td_Mo_laysRing 13 rfl) ?_
  refine pw_iconst (v := 1) (px_at td_Mo_laysRing 14 rfl) (by decide) ?_
  refine pw_iand (px_at td_Mo_laysRing 15 rfl) ?_
  rcases px_ite h with ⟨hc3, h⟩ | ⟨hc3, h⟩
  · refine pw_if_ne 31 (px_at td_Mo_laysRing 16 rfl) (by decide) (fun hn => absurd hc3 hn) (fun _ => ?_)
    refine pw_iinc (q := 2) (v := (v2 + 1)) (L' := [(2, .inl (v2 + 1)), (0, .inr (some (0, 0, 0))), (1, .inl v1)]) (px_at td_Mo_laysRing 17 rfl) rfl rfl (by decide) rfl ?_
    refine pw_goto 17 (px_at td_Mo_laysRing 18 rfl) (by decide) ?_
    refine pw_L [(0, .inr (some (0, 0, 0))), (1, .inl v1), (2, .inl (v2 + 1))] [1, 2, 0] rfl ?_
    exact hC (v2 + 1) (Option.some.inj h).symm
  · refine pw_if_ne 31 (px_at td_Mo_laysRing 16 rfl) (by decide) (fun _ => ?_) (fun hn => absurd hn hc3)
    refine pw_L [(0, .inr (some (0, 0, 0))), (2, .inl v2)] [0, 2] rfl ?_
    exact hX0 v2 (Option.some.inj h).symm
def Mo_laysRing_L17 (σ : pxS) (v1 : Int32) : (Int32) → Option ((Int32) ⊕ (Int32)) := fun s => Mo_laysRing_n17 σ v1 s
set_option maxRecDepth 100000 in
theorem Mo_laysRing_L17_l {l : Launch} {ids : List pxI} {Rt : Option pxV → List pxI → pxG → pxS → Prop} {σ : pxS} {v1 : Int32} {n : Nat} {s : Int32} {e : Int32} (h : px_it (Mo_laysRing_L17 σ v1) n s = some e) (hX0 : pw l (px_R 3) y_Mo_laysRing c_Mo_laysRing 5 none 31 [(0, .inr (some (0, 0, 0))), (2, .inl e)] [] ids mG σ 0 0 Rt) : pw l (px_R 3) y_Mo_laysRing c_Mo_laysRing 5 none 17 [(0, .inr (some (0, 0, 0))), (1, .inl v1), (2, .inl s)] [] ids mG σ 0 0 Rt := by
  refine px_it_rule (f := Mo_laysRing_L17 σ v1) (C := fun s => pw l (px_R 3) y_Mo_laysRing c_Mo_laysRing 5 none 17 [(0, .inr (some (0, 0, 0))), (1, .inl v1), (2, .inl s)] [] ids mG σ 0 0 Rt) (X := fun e => (pw l (px_R 3) y_Mo_laysRing c_Mo_laysRing 5 none 31 [(0, .inr (some (0, 0, 0))), (2, .inl e)] [] ids mG σ 0 0 Rt)) ?_ ?_ n s e h hX0
  · intro s s1 hf hC
    exact Mo_laysRing_n17_l hf (fun s2 hs => by cases hs; exact hC) (fun e he => by cases he)
  · intro s e hf hX
    exact Mo_laysRing_n17_l hf (fun s2 hs => by cases hs) (fun e1 he => by cases he; exact hX)
def Mo_laysRing_n109 (σ : pxS) (v2 : Int32) (v3 : Int32) (v4 : Int32) : Option ((Int32) ⊕ (Int32)) :=
  some (.inl (v4 + 1))
set_option maxRecDepth 100000 in
theorem Mo_laysRing_n109_l {l : Launch} {ids : List pxI} {Rt : Option pxV → List pxI → pxG → pxS → Prop} {σ : pxS} {v2 : Int32} {v3 : Int32} {v4 : Int32} {o : (Int32) ⊕ (Int32)} (h : Mo_laysRing_n109 σ v2 v3 v4 = some o) (hC : ∀ s, o = .inl s → pw l (px_R 3) y_Mo_laysRing c_Mo_laysRing 5 none 66 [(0, .inr (some (0, 0, 0))), (2, .inl v2), (3, .inl v3), (4, .inl s)] [] ids mG σ 0 0 Rt) (hX0 : ∀ e, o = .inr e → pw l (px_R 3) y_Mo_laysRing c_Mo_laysRing 5 none 115 [(0, .inr (some (0, 0, 0))), (2, .inl v2), (3, .inl v3), (4, .inl e)] [] ids mG σ 0 0 Rt) : pw l (px_R 3) y_Mo_laysRing c_Mo_laysRing 5 none 109 [(0, .inr (some (0, 0, 0))), (2, .inl v2), (3, .inl v3), (4, .inl v4)] [] ids mG σ 0 0 Rt := by
  unfold Mo_laysRing_n109 at h
  refine pw_iinc (q := 3) (v := (v4 + 1)) (L' := [(4, .inl (v4 + 1)), (0, .inr (some (0, 0, 0))), (2, .inl v2), (3, .inl v3)]) (px_at td_Mo_laysRing 67 rfl) rfl rfl (by decide) rfl ?_
  refine pw_goto 66 (px_at td_Mo_laysRing 68 rfl) (by decide) ?_
  refine pw_L [(0, .inr (some (0, 0, 0))), (2, .inl v2), (3, .inl v3), (4, .inl (v4 + 1))] [1, 2, 3, 0] rfl ?_
  exact hC (v4 + 1) (Option.some.inj h).symm
def Mo_laysRing_n66 (σ : pxS) (v2 : Int32) (v3 : Int32) (v4 : Int32) : Option ((Int32) ⊕ (Int32)) :=
  (if v4 = v2 then Mo_laysRing_n109 σ v2 v3 v4 else px_gd (v3 - 1) 12 (px_gd (σ (1, 37, 0) (v3 - 1).toNatClampNeg) 12 ((if (((σ (1, 26, 0) (σ (1, 37, 0) (v3 - 1).toNatClampNeg).toNatClampNeg) >>> (v4 &&& 31)) &&& 1) = 0 then Mo_laysRing_n109 σ v2 v3 v4 else px_gd v4 12 ((if (σ (1, 36, 0) v4.toNatClampNeg) = ((σ (0, 0, 0) 38) - v3) then some (.inr v4) else Mo_laysRing_n109 σ v2 v3 v4))))))
set_option maxRecDepth 100000 in
theorem Mo_laysRing_n66_l {l : Launch} {ids : List pxI} {Rt : Option pxV → List pxI → pxG → pxS → Prop} {σ : pxS} {v2 : Int32} {v3 : Int32} {v4 : Int32} {o : (Int32) ⊕ (Int32)} (h : Mo_laysRing_n66 σ v2 v3 v4 = some o) (hC : ∀ s, o = .inl s → pw l (px_R 3) y_Mo_laysRing c_Mo_laysRing 5 none 66 [(0, .inr (some (0, 0, 0))), (2, .inl v2), (3, .inl v3), (4, .inl s)] [] ids mG σ 0 0 Rt) (hX0 : ∀ e, o = .inr e → pw l (px_R 3) y_Mo_laysRing c_Mo_laysRing 5 none 115 [(0, .inr (some (0, 0, 0))), (2, .inl v2), (3, .inl v3), (4, .inl e)] [] ids mG σ 0 0 Rt) : pw l (px_R 3) y_Mo_laysRing c_Mo_laysRing 5 none 66 [(0, .inr (some (0, 0, 0))), (2, .inl v2), (3, .inl v3), (4, .inl v4)] [] ids mG σ 0 0 Rt := by
  unfold Mo_laysRing_n66 at h
  refine pw_iload 3 (px_at td_Mo_laysRing 41 rfl) rfl ?_
  refine pw_iload_n 1 (px_at td_Mo_laysRing 42 rfl) rfl rfl ?_
  rcases px_ite h with ⟨hc14, h⟩ | ⟨hc14, h⟩
  · refine pw_icmp_eq 109 (px_at td_Mo_laysRing 43 rfl) (by decide) (fun _ => ?_) (fun hn => absurd hc14 hn)
    exact Mo_laysRing_n109_l h hC hX0
  · refine pw_icmp_eq 109 (px_at td_Mo_laysRing 43 rfl) (by decide) (fun hn => absurd hn hc14) (fun _ => ?_)
    refine pw_aload_n 0 (px_at td_Mo_laysRing 44 rfl) rfl rfl ?_
    refine pw_getf (v := .inr (some (1, 26, 0))) (px_at td_Mo_laysRing 45 rfl) lf_Mo_57 rfl rfl rfl ?_
    refine pw_aload_n 0 (px_at td_Mo_laysRing 46 rfl) rfl rfl ?_
    refine pw_getf (v := .inr (some (1, 37, 0))) (px_at td_Mo_laysRing 47 rfl) lf_Mo_84 rfl rfl rfl ?_
    refine pw_iload_n 2 (px_at td_Mo_laysRing 48 rfl) rfl rfl ?_
    refine pw_iconst (v := 1) (px_at td_Mo_laysRing 49 rfl) (by decide) ?_
    refine pw_isub (px_at td_Mo_laysRing 50 rfl) ?_
    obtain ⟨hi9, h⟩ := px_gd_e h
    refine pw_ial (px_at td_Mo_laysRing 51 rfl) rfl hi9 rfl ?_
    obtain ⟨hi10, h⟩ := px_gd_e h
    refine pw_ial (px_at td_Mo_laysRing 52 rfl) rfl hi10 rfl ?_
    refine pw_iload 3 (px_at td_Mo_laysRing 53 rfl) rfl ?_
    refine pw_ishr (px_at td_Mo_laysRing 54 rfl) ?_
    refine pw_iconst (v := 1) (px_at td_Mo_laysRing 55 rfl) (by decide) ?_
    refine pw_iand (px_at td_Mo_laysRing 56 rfl) ?_
    rcases px_ite h with ⟨hc13, h⟩ | ⟨hc13, h⟩
    · refine pw_if_eq 109 (px_at td_Mo_laysRing 57 rfl) (by decide) (fun _ => ?_) (fun hn => absurd hc13 hn)
      exact Mo_laysRing_n109_l h hC hX0
    · refine pw_if_eq 109 (px_at td_Mo_laysRing 57 rfl) (by decide) (fun hn => absurd hn hc13) (fun _ => ?_)
      refine pw_aload_n 0 (px_at td_Mo_laysRing 58 rfl) rfl rfl ?_
      refine pw_getf (v := .inr (some (1, 36, 0))) (px_at td_Mo_laysRing 59 rfl) lf_Mo_81 rfl rfl rfl ?_
      refine pw_iload 3 (px_at td_Mo_laysRing 60 rfl) rfl ?_
      obtain ⟨hi11, h⟩ := px_gd_e h
      refine pw_ial (px_at td_Mo_laysRing 61 rfl) rfl hi11 rfl ?_
      refine pw_aload_n 0 (px_at td_Mo_laysRing 62 rfl) rfl rfl ?_
      refine pw_getf (v := .inl (σ (0, 0, 0) 38)) (px_at td_Mo_laysRing 63 rfl) lf_Mo_303 rfl rfl rfl ?_
      refine pw_iload_n 2 (px_at td_Mo_laysRing 64 rfl) rfl rfl ?_
      refine pw_isub (px_at td_Mo_laysRing 65 rfl) ?_
      rcases px_ite h with ⟨hc12, h⟩ | ⟨hc12, h⟩
      · refine pw_icmp_eq 115 (px_at td_Mo_laysRing 66 rfl) (by decide) (fun _ => ?_) (fun hn => absurd hc12 hn)
        exact hX0 v4 (Option.some.inj h).symm
      · refine pw_icmp_eq 115 (px_at td_Mo_laysRing 66 rfl) (by decide) (fun hn => absurd hn hc12) (fun _ => ?_)
        exact Mo_laysRing_n109_l h hC hX0
def Mo_laysRing_L66 (σ : pxS) (v2 : Int32) (v3 : Int32) : (Int32) → Option ((Int32) ⊕ (Int32)) := fun s => Mo_laysRing_n66 σ v2 v3 s
set_option maxRecDepth 100000 in
theorem Mo_laysRing_L66_l {l : Launch} {ids : List pxI} {Rt : Option pxV → List pxI → pxG → pxS → Prop} {σ : pxS} {v2 : Int32} {v3 : Int32} {n : Nat} {s : Int32} {e : Int32} (h : px_it (Mo_laysRing_L66 σ v2 v3) n s = some e) (hX0 : pw l (px_R 3) y_Mo_laysRing c_Mo_laysRing 5 none 115 [(0, .inr (some (0, 0, 0))), (2, .inl v2), (3, .inl v3), (4, .inl e)] [] ids mG σ 0 0 Rt) : pw l (px_R 3) y_Mo_laysRing c_Mo_laysRing 5 none 66 [(0, .inr (some (0, 0, 0))), (2, .inl v2), (3, .inl v3), (4, .inl s)] [] ids mG σ 0 0 Rt := by
  refine px_it_rule (f := Mo_laysRing_L66 σ v2 v3) (C := fun s => pw l (px_R 3) y_Mo_laysRing c_Mo_laysRing 5 none 66 [(0, .inr (some (0, 0, 0))), (2, .inl v2), (3, .inl v3), (4, .inl s)] [] ids mG σ 0 0 Rt) (X := fun e => (pw l (px_R 3) y_Mo_laysRing c_Mo_laysRing 5 none 115 [(0, .inr (some (0, 0, 0))), (2, .inl v2), (3, .inl v3), (4, .inl e)] [] ids mG σ 0 0 Rt)) ?_ ?_ n s e h hX0
  · intro s s1 hf hC
    exact Mo_laysRing_n66_l hf (fun s2 hs => by cases hs; exact hC) (fun e he => by cases he)
  · intro s e hf hX
    exact Mo_laysRing_n66_l hf (fun s2 hs => by cases hs) (fun e1 he => by cases he; exact hX)
def Mo_laysRing_n55 (σ : pxS) (v2 : Int32) (v3 : Int32) : Option ((Int32 × pxS) ⊕ (pxS)) :=
  (if (σ (0, 0, 0) 38) ≤ v3 then some (.inr σ) else px_b1 (px_it (Mo_laysRing_L66 σ v2 v3) px_N 0) fun e15 =>
  px_gd v3 12 (px_l (px_up σ (1, 37, 0) v3.toNatClampNeg e15) fun σ17 =>
  some (.inl ((v3 + 1), σ17))))
set_option maxRecDepth 100000 in
theorem Mo_laysRing_n55_l {l : Launch} {ids : List pxI} {Rt : Option pxV → List pxI → pxG → pxS → Prop} {σ : pxS} {v2 : Int32} {v3 : Int32} {o : (Int32 × pxS) ⊕ (pxS)} (h : Mo_laysRing_n55 σ v2 v3 = some o) (hC : ∀ s, o = .inl s → pw l (px_R 3) y_Mo_laysRing c_Mo_laysRing 5 none 55 [(0, .inr (some (0, 0, 0))), (2, .inl v2), (3, .inl s.1)] [] ids mG s.2 0 0 Rt) (hX0 : ∀ e, o = .inr e → pw l (px_R 3) y_Mo_laysRing c_Mo_laysRing 5 none 129 [] [] ids mG e 0 0 Rt) : pw l (px_R 3) y_Mo_laysRing c_Mo_laysRing 5 none 55 [(0, .inr (some (0, 0, 0))), (2, .inl v2), (3, .inl v3)] [] ids mG σ 0 0 Rt := by
  unfold Mo_laysRing_n55 at h
  refine pw_iload_n 2 (px_at td_Mo_laysRing 35 rfl) rfl rfl ?_
  refine pw_aload_n 0 (px_at td_Mo_laysRing 36 rfl) rfl rfl ?_
  refine pw_getf (v := .inl (σ (0, 0, 0) 38)) (px_at td_Mo_laysRing 37 rfl) lf_Mo_303 rfl rfl rfl ?_
  rcases px_ite h with ⟨hc18, h⟩ | ⟨hc18, h⟩
  · refine pw_icmp_ge 129 (px_at td_Mo_laysRing 38 rfl) (by decide) (fun _ => ?_) (fun hn => absurd hc18 hn)
    refine pw_L [] [] rfl ?_
    exact hX0 σ (Option.some.inj h).symm
  · refine pw_icmp_ge 129 (px_at td_Mo_laysRing 38 rfl) (by decide) (fun hn => absurd hn hc18) (fun _ => ?_)
    refine pw_iconst (v := 0) (px_at td_Mo_laysRing 39 rfl) (by decide) ?_
    refine pw_istore (L' := [(4, .inl 0), (0, .inr (some (0, 0, 0))), (2, .inl v2), (3, .inl v3)]) (px_at td_Mo_laysRing 40 rfl) (by decide) rfl ?_
    obtain ⟨e15, he15, h⟩ := px_b1_e h
    refine pw_L [(0, .inr (some (0, 0, 0))), (2, .inl v2), (3, .inl v3), (4, .inl 0)] [1, 2, 3, 0] rfl ?_
    refine Mo_laysRing_L66_l he15 ?_
    refine pw_aload_n 0 (px_at td_Mo_laysRing 69 rfl) rfl rfl ?_
    refine pw_getf (v := .inr (some (1, 37, 0))) (px_at td_Mo_laysRing 70 rfl) lf_Mo_84 rfl rfl rfl ?_
    refine pw_iload_n 2 (px_at td_Mo_laysRing 71 rfl) rfl rfl ?_
    refine pw_iload 3 (px_at td_Mo_laysRing 72 rfl) rfl ?_
    obtain ⟨hi16, h⟩ := px_gd_e h
    obtain ⟨σ17, hσ17, h⟩ := px_l_e h
    refine pw_ias (px_at td_Mo_laysRing 73 rfl) rfl hi16 rfl hσ17 ?_
    refine pw_iinc (q := 2) (v := (v3 + 1)) (L' := [(3, .inl (v3 + 1)), (0, .inr (some (0, 0, 0))), (2, .inl v2), (4, .inl e15)]) (px_at td_Mo_laysRing 74 rfl) rfl rfl (by decide) rfl ?_
    refine pw_goto 55 (px_at td_Mo_laysRing 75 rfl) (by decide) ?_
    refine pw_L [(0, .inr (some (0, 0, 0))), (2, .inl v2), (3, .inl (v3 + 1))] [1, 2, 0] rfl ?_
    exact hC ((v3 + 1), σ17) (Option.some.inj h).symm
def Mo_laysRing_L55 (v2 : Int32) : (Int32 × pxS) → Option ((Int32 × pxS) ⊕ (pxS)) := fun s => Mo_laysRing_n55 s.2 v2 s.1
set_option maxRecDepth 100000 in
theorem Mo_laysRing_L55_l {l : Launch} {ids : List pxI} {Rt : Option pxV → List pxI → pxG → pxS → Prop} {v2 : Int32} {n : Nat} {s : Int32 × pxS} {e : pxS} (h : px_it (Mo_laysRing_L55 v2) n s = some e) (hX0 : pw l (px_R 3) y_Mo_laysRing c_Mo_laysRing 5 none 129 [] [] ids mG e 0 0 Rt) : pw l (px_R 3) y_Mo_laysRing c_Mo_laysRing 5 none 55 [(0, .inr (some (0, 0, 0))), (2, .inl v2), (3, .inl s.1)] [] ids mG s.2 0 0 Rt := by
  refine px_it_rule (f := Mo_laysRing_L55 v2) (C := fun s => pw l (px_R 3) y_Mo_laysRing c_Mo_laysRing 5 none 55 [(0, .inr (some (0, 0, 0))), (2, .inl v2), (3, .inl s.1)] [] ids mG s.2 0 0 Rt) (X := fun e => (pw l (px_R 3) y_Mo_laysRing c_Mo_laysRing 5 none 129 [] [] ids mG e 0 0 Rt)) ?_ ?_ n s e h hX0
  · intro s s1 hf hC
    exact Mo_laysRing_n55_l hf (fun s2 hs => by cases hs; exact hC) (fun e he => by cases he)
  · intro s e hf hX
    exact Mo_laysRing_n55_l hf (fun s2 hs => by cases hs) (fun e1 he => by cases he; exact hX)
def F_Mo_laysRing (σ : pxS)  : Option (pxS) :=
  px_l (px_up σ (0, 0, 0) 38 0) fun σ1 =>
  px_b1 (F_Mo_inRings σ1 ) fun r2 =>
  (if r2 = 0 then some σ1 else px_b1 (px_it (Mo_laysRing_L17 σ1 r2) px_N 0) fun e4 =>
  px_b1 (F_Mo_laysSteps σ1 e4) fun σ5 =>
  px_gd e4 12 (px_l (px_up σ5 (0, 0, 0) 38 (σ5 (1, 36, 0) e4.toNatClampNeg)) fun σ7 =>
  px_l (px_up σ7 (1, 37, 0) 0 e4) fun σ8 =>
  px_b1 (px_it (Mo_laysRing_L55 e4) px_N (1, σ8)) fun e19 =>
  some e19))
set_option maxRecDepth 100000 in
theorem e_Mo_laysRing {l : Launch} {ids : List pxI} {Rt : Option pxV → List pxI → pxG → pxS → Prop} {σ : pxS}  {res : pxS} (h : F_Mo_laysRing σ  = some res) (hR : Rt none ids mG res) : pw l (px_R 3) y_Mo_laysRing c_Mo_laysRing 5 none 0 [(0, .inr (some (0, 0, 0)))] [] ids mG σ 0 0 Rt := by
  unfold F_Mo_laysRing at h
  refine pw_aload_n 0 (px_at td_Mo_laysRing 0 rfl) rfl rfl ?_
  refine pw_iconst (v := 0) (px_at td_Mo_laysRing 1 rfl) (by decide) ?_
  obtain ⟨σ1, hσ1, h⟩ := px_l_e h
  refine pw_puti (px_at td_Mo_laysRing 2 rfl) lw_Mo_303 rfl rfl (pw_s hσ1 ?_)
  refine pw_aload_n 0 (px_at td_Mo_laysRing 3 rfl) rfl rfl ?_
  obtain ⟨r2, hk2, h⟩ := px_b1_e h
  refine pw_cV1 (0, 0, 0) [] [] (px_at td_Mo_laysRing 4 rfl) lV_Mo_306 rfl rfl rfl (Nat.le_of_ble_eq_true rfl) (by decide) (k_Mo_inRings hk2) ?_
  refine pw_istore_n (L' := [(1, .inl r2), (0, .inr (some (0, 0, 0)))]) (px_at td_Mo_laysRing 5 rfl) rfl (by decide) rfl ?_
  refine pw_iload_n 0 (px_at td_Mo_laysRing 6 rfl) rfl rfl ?_
  rcases px_ite h with ⟨hc20, h⟩ | ⟨hc20, h⟩
  · refine pw_if_ne 15 (px_at td_Mo_laysRing 7 rfl) (by decide) (fun hn => absurd hc20 hn) (fun _ => ?_)
    obtain rfl := Option.some.inj h
    exact pw_vret (px_at td_Mo_laysRing 8 rfl) rfl (Nat.le_refl 0) (Nat.le_refl 0) hR
  · refine pw_if_ne 15 (px_at td_Mo_laysRing 7 rfl) (by decide) (fun _ => ?_) (fun hn => absurd hn hc20)
    refine pw_iconst (v := 0) (px_at td_Mo_laysRing 9 rfl) (by decide) ?_
    refine pw_istore_n (L' := [(2, .inl 0), (1, .inl r2), (0, .inr (some (0, 0, 0)))]) (px_at td_Mo_laysRing 10 rfl) rfl (by decide) rfl ?_
    obtain ⟨e4, he4, h⟩ := px_b1_e h
    refine pw_L [(0, .inr (some (0, 0, 0))), (1, .inl r2), (2, .inl 0)] [2, 1, 0] rfl ?_
    refine Mo_laysRing_L17_l he4 ?_
    refine pw_aload_n 0 (px_at td_Mo_laysRing 19 rfl) rfl rfl ?_
    refine pw_iload_n 1 (px_at td_Mo_laysRing 20 rfl) rfl rfl ?_
    obtain ⟨σ5, hk5, h⟩ := px_b1_e h
    refine pw_cV0 (0, 0, 0) [.inl e4] [] (px_at td_Mo_laysRing 21 rfl) lV_Mo_309 rfl rfl rfl (Nat.le_of_ble_eq_true rfl) (by decide) (k_Mo_laysSteps hk5) ?_
    refine pw_aload_n 0 (px_at td_Mo_laysRing 22 rfl) rfl rfl ?_
    refine pw_aload_n 0 (px_at td_Mo_laysRing 23 rfl) rfl rfl ?_
    refine pw_getf (v := .inr (some (1, 36, 0))) (px_at td_Mo_laysRing 24 rfl) lf_Mo_81 rfl rfl rfl ?_
    refine pw_iload_n 1 (px_at td_Mo_laysRing 25 rfl) rfl rfl ?_
    obtain ⟨hi6, h⟩ := px_gd_e h
    refine pw_ial (px_at td_Mo_laysRing 26 rfl) rfl hi6 rfl ?_
    obtain ⟨σ7, hσ7, h⟩ := px_l_e h
    refine pw_puti (px_at td_Mo_laysRing 27 rfl) lw_Mo_303 rfl rfl (pw_s hσ7 ?_)
    refine pw_aload_n 0 (px_at td_Mo_laysRing 28 rfl) rfl rfl ?_
    refine pw_getf (v := .inr (some (1, 37, 0))) (px_at td_Mo_laysRing 29 rfl) lf_Mo_84 rfl rfl rfl ?_
    refine pw_iconst (v := 0) (px_at td_Mo_laysRing 30 rfl) (by decide) ?_
    refine pw_iload_n 1 (px_at td_Mo_laysRing 31 rfl) rfl rfl ?_
    obtain ⟨σ8, hσ8, h⟩ := px_l_e h
    refine pw_ias (px_at td_Mo_laysRing 32 rfl) rfl (px_inL (by decide) px_z0 (by decide)) px_z0 hσ8 ?_
    refine pw_iconst (v := 1) (px_at td_Mo_laysRing 33 rfl) (by decide) ?_
    refine pw_istore_n (L' := [(3, .inl 1), (0, .inr (some (0, 0, 0))), (2, .inl e4)]) (px_at td_Mo_laysRing 34 rfl) rfl (by decide) rfl ?_
    obtain ⟨e19, he19, h⟩ := px_b1_e h
    refine pw_L [(0, .inr (some (0, 0, 0))), (2, .inl e4), (3, .inl 1)] [1, 2, 0] rfl ?_
    refine Mo_laysRing_L55_l he19 ?_
    obtain rfl := Option.some.inj h
    exact pw_vret (px_at td_Mo_laysRing 76 rfl) rfl (Nat.le_refl 0) (Nat.le_refl 0) hR
theorem k_Mo_laysRing {l : Launch} {ids : List pxI} {σ : pxS}  {res : pxS} (h : F_Mo_laysRing σ  = some res) : pm l y_Mo_laysRing c_Mo_laysRing 5 none (px_R 3) [.inr (some (0, 0, 0))] ids mG σ (px_r none ids mG res) :=
  pm_ofF (by decide +kernel) (Nat.le_of_ble_eq_true rfl) (e_Mo_laysRing h ⟨rfl, rfl, rfl, rfl⟩)
/-! Mo_ring -/
def F_Mo_ring (σ : pxS) (v1 : Int32) : Option (Int32 × pxS) :=
  px_l (px_up σ (0, 0, 0) 0 0) fun σ1 =>
  (if 0 ≤ v1 then px_b1 (F_Mo_laysRing σ1 ) fun σ2 =>
  (if (σ2 (0, 0, 0) 38) ≤ v1 then some ((-2), σ2) else px_gd v1 12 (some ((σ2 (1, 37, 0) v1.toNatClampNeg), σ2))) else some ((-1), σ1))
set_option maxRecDepth 100000 in
theorem e_Mo_ring {l : Launch} {ids : List pxI} {Rt : Option pxV → List pxI → pxG → pxS → Prop} {σ : pxS} {v1 : Int32} {res : Int32 × pxS} (h : F_Mo_ring σ v1 = some res) (hR : Rt (some (.inl res.1)) ids mG res.2) : pw l (px_R 4) y_Mo_ring c_Mo_ring 2 (some .int) 0 [(0, .inr (some (0, 0, 0))), (1, .inl v1)] [] ids mG σ 0 0 Rt := by
  unfold F_Mo_ring at h
  refine pw_aload_n 0 (px_at td_Mo_ring 0 rfl) rfl rfl ?_
  refine pw_iconst (v := 0) (px_at td_Mo_ring 1 rfl) (by decide) ?_
  obtain ⟨σ1, hσ1, h⟩ := px_l_e h
  refine pw_puti (px_at td_Mo_ring 2 rfl) lw_Mo_99 rfl rfl (pw_s hσ1 ?_)
  refine pw_iload_n 1 (px_at td_Mo_ring 3 rfl) rfl rfl ?_
  rcases px_ite h with ⟨hc5, h⟩ | ⟨hc5, h⟩
  · refine pw_if_ge 11 (px_at td_Mo_ring 4 rfl) (by decide) (fun _ => ?_) (fun hn => absurd hc5 hn)
    refine pw_aload_n 0 (px_at td_Mo_ring 7 rfl) rfl rfl ?_
    obtain ⟨σ2, hk2, h⟩ := px_b1_e h
    refine pw_cV0 (0, 0, 0) [] [] (px_at td_Mo_ring 8 rfl) lV_Mo_312 rfl rfl rfl (Nat.le_of_ble_eq_true rfl) (by decide) (k_Mo_laysRing hk2) ?_
    refine pw_iload_n 1 (px_at td_Mo_ring 9 rfl) rfl rfl ?_
    refine pw_aload_n 0 (px_at td_Mo_ring 10 rfl) rfl rfl ?_
    refine pw_getf (v := .inl (σ2 (0, 0, 0) 38)) (px_at td_Mo_ring 11 rfl) lf_Mo_303 rfl rfl rfl ?_
    rcases px_ite h with ⟨hc4, h⟩ | ⟨hc4, h⟩
    · refine pw_icmp_ge 32 (px_at td_Mo_ring 12 rfl) (by decide) (fun _ => ?_) (fun hn => absurd hc4 hn)
      refine pw_bipush (v := (-2)) (px_at td_Mo_ring 18 rfl) (by decide) ?_
      obtain rfl := Option.some.inj h
      exact pw_iret (px_at td_Mo_ring 19 rfl) rfl (Nat.le_refl 0) (Nat.le_refl 0) hR
    · refine pw_icmp_ge 32 (px_at td_Mo_ring 12 rfl) (by decide) (fun hn => absurd hn hc4) (fun _ => ?_)
      refine pw_aload_n 0 (px_at td_Mo_ring 13 rfl) rfl rfl ?_
      refine pw_getf (v := .inr (some (1, 37, 0))) (px_at td_Mo_ring 14 rfl) lf_Mo_84 rfl rfl rfl ?_
      refine pw_iload_n 1 (px_at td_Mo_ring 15 rfl) rfl rfl ?_
      obtain ⟨hi3, h⟩ := px_gd_e h
      refine pw_ial (px_at td_Mo_ring 16 rfl) rfl hi3 rfl ?_
      refine pw_goto 34 (px_at td_Mo_ring 17 rfl) (by decide) ?_
      obtain rfl := Option.some.inj h
      exact pw_iret (px_at td_Mo_ring 19 rfl) rfl (Nat.le_refl 0) (Nat.le_refl 0) hR
  · refine pw_if_ge 11 (px_at td_Mo_ring 4 rfl) (by decide) (fun hn => absurd hn hc5) (fun _ => ?_)
    refine pw_iconst (v := (-1)) (px_at td_Mo_ring 5 rfl) (by decide) ?_
    obtain rfl := Option.some.inj h
    exact pw_iret (px_at td_Mo_ring 6 rfl) rfl (Nat.le_refl 0) (Nat.le_refl 0) hR
theorem k_Mo_ring {l : Launch} {ids : List pxI} {σ : pxS} {v1 : Int32} {res : Int32 × pxS} (h : F_Mo_ring σ v1 = some res) : pm l y_Mo_ring c_Mo_ring 2 (some .int) (px_R 4) [.inr (some (0, 0, 0)), .inl v1] ids mG σ (px_r (some (.inl res.1)) ids mG res.2) :=
  pm_ofF (by decide +kernel) (Nat.le_of_ble_eq_true rfl) (e_Mo_ring h ⟨rfl, rfl, rfl, rfl⟩)
/-! Mo_never -/
def Mo_never_n14 (σ : pxS)  : Option (Int32 × pxS) :=
  some ((-1), σ)
set_option maxRecDepth 100000 in
theorem Mo_never_n14_l {l : Launch} {ids : List pxI} {Rt : Option pxV → List pxI → pxG → pxS → Prop} {σ : pxS}  {res : Int32 × pxS} (h : Mo_never_n14 σ  = some res) (hR : Rt (some (.inl res.1)) ids mG res.2) : pw l (px_R 3) y_Mo_never c_Mo_never 5 (some .int) 14 [] [] ids mG σ 0 0 Rt := by
  unfold Mo_never_n14 at h
  refine pw_iconst (v := (-1)) (px_at td_Mo_never 8 rfl) (by decide) ?_
  obtain rfl := Option.some.inj h
  exact pw_iret (px_at td_Mo_never 9 rfl) rfl (Nat.le_refl 0) (Nat.le_refl 0) hR
def Mo_never_n59 (σ : pxS) (v1 : Int32) (v2 : Int32) (v3 : Int32) (v4 : Int32) : Option ((Int32 × Int32) ⊕ (Int32)) :=
  some (.inl (v3, (v4 + 1)))
set_option maxRecDepth 100000 in
theorem Mo_never_n59_l {l : Launch} {ids : List pxI} {Rt : Option pxV → List pxI → pxG → pxS → Prop} {σ : pxS} {v1 : Int32} {v2 : Int32} {v3 : Int32} {v4 : Int32} {o : (Int32 × Int32) ⊕ (Int32)} (h : Mo_never_n59 σ v1 v2 v3 v4 = some o) (hC : ∀ s, o = .inl s → pw l (px_R 3) y_Mo_never c_Mo_never 5 (some .int) 26 [(0, .inr (some (0, 0, 0))), (1, .inl v1), (2, .inl v2), (3, .inl s.1), (4, .inl s.2)] [] ids mG σ 0 0 Rt) (hX0 : ∀ e, o = .inr e → pw l (px_R 3) y_Mo_never c_Mo_never 5 (some .int) 65 [(3, .inl e)] [] ids mG σ 0 0 Rt) : pw l (px_R 3) y_Mo_never c_Mo_never 5 (some .int) 59 [(0, .inr (some (0, 0, 0))), (1, .inl v1), (2, .inl v2), (3, .inl v3), (4, .inl v4)] [] ids mG σ 0 0 Rt := by
  unfold Mo_never_n59 at h
  refine pw_iinc (q := 4) (v := (v4 + 1)) (L' := [(4, .inl (v4 + 1)), (0, .inr (some (0, 0, 0))), (1, .inl v1), (2, .inl v2), (3, .inl v3)]) (px_at td_Mo_never 37 rfl) rfl rfl (by decide) rfl ?_
  refine pw_goto 26 (px_at td_Mo_never 38 rfl) (by decide) ?_
  refine pw_L [(0, .inr (some (0, 0, 0))), (1, .inl v1), (2, .inl v2), (3, .inl v3), (4, .inl (v4 + 1))] [1, 2, 3, 4, 0] rfl ?_
  exact hC (v3, (v4 + 1)) (Option.some.inj h).symm
def Mo_never_n26 (σ : pxS) (v1 : Int32) (v2 : Int32) (v3 : Int32) (v4 : Int32) : Option ((Int32 × Int32) ⊕ (Int32)) :=
  px_b1 (F_Mo_rails σ ) fun r3 =>
  (if r3 ≤ v4 then some (.inr v3) else (if v1 = 1 then px_gd v4 12 ((if ((σ (1, 27, 0) v4.toNatClampNeg) &&& v2) = 0 then Mo_never_n59 σ v1 v2 v3 v4 else Mo_never_n59 σ v1 v2 (v3 ||| (1 <<< (v4 &&& 31))) v4)) else some (.inr v3)))
set_option maxRecDepth 100000 in
theorem Mo_never_n26_l {l : Launch} {ids : List pxI} {Rt : Option pxV → List pxI → pxG → pxS → Prop} {σ : pxS} {v1 : Int32} {v2 : Int32} {v3 : Int32} {v4 : Int32} {o : (Int32 × Int32) ⊕ (Int32)} (h : Mo_never_n26 σ v1 v2 v3 v4 = some o) (hC : ∀ s, o = .inl s → pw l (px_R 3) y_Mo_never c_Mo_never 5 (some .int) 26 [(0, .inr (some (0, 0, 0))), (1, .inl v1), (2, .inl v2), (3, .inl s.1), (4, .inl s.2)] [] ids mG σ 0 0 Rt) (hX0 : ∀ e, o = .inr e → pw l (px_R 3) y_Mo_never c_Mo_never 5 (some .int) 65 [(3, .inl e)] [] ids mG σ 0 0 Rt) : pw l (px_R 3) y_Mo_never c_Mo_never 5 (some .int) 26 [(0, .inr (some (0, 0, 0))), (1, .inl v1), (2, .inl v2), (3, .inl v3), (4, .inl v4)] [] ids mG σ 0 0 Rt := by
  unfold Mo_never_n26 at h
  refine pw_iload 4 (px_at td_Mo_never 17 rfl) rfl ?_
  refine pw_aload_n 0 (px_at td_Mo_never 18 rfl) rfl rfl ?_
  obtain ⟨r3, hk3, h⟩ := px_b1_e h
  refine pw_cV1 (0, 0, 0) [] [.inl v4] (px_at td_Mo_never 19 rfl) lV_Mo_223 rfl rfl rfl (Nat.le_of_ble_eq_true rfl) (by decide) (k_Mo_rails hk3) ?_
  rcases px_ite h with ⟨hc7, h⟩ | ⟨hc7, h⟩
  · refine pw_icmp_ge 65 (px_at td_Mo_never 20 rfl) (by decide) (fun _ => ?_) (fun hn => absurd hc7 hn)
    refine pw_L [(3, .inl v3)] [3] rfl ?_
    exact hX0 v3 (Option.some.inj h).symm
  · refine pw_icmp_ge 65 (px_at td_Mo_never 20 rfl) (by decide) (fun hn => absurd hn hc7) (fun _ => ?_)
    refine pw_iload_n 1 (px_at td_Mo_never 21 rfl) rfl rfl ?_
    refine pw_iconst (v := 1) (px_at td_Mo_never 22 rfl) (by decide) ?_
    rcases px_ite h with ⟨hc6, h⟩ | ⟨hc6, h⟩
    · refine pw_icmp_ne 65 (px_at td_Mo_never 23 rfl) (by decide) (fun hn => absurd hc6 hn) (fun _ => ?_)
      refine pw_aload_n 0 (px_at td_Mo_never 24 rfl) rfl rfl ?_
      refine pw_getf (v := .inr (some (1, 27, 0))) (px_at td_Mo_never 25 rfl) lf_Mo_60 rfl rfl rfl ?_
      refine pw_iload 4 (px_at td_Mo_never 26 rfl) rfl ?_
      obtain ⟨hi4, h⟩ := px_gd_e h
      refine pw_ial (px_at td_Mo_never 27 rfl) rfl hi4 rfl ?_
      refine pw_iload_n 2 (px_at td_Mo_never 28 rfl) rfl rfl ?_
      refine pw_iand (px_at td_Mo_never 29 rfl) ?_
      rcases px_ite h with ⟨hc5, h⟩ | ⟨hc5, h⟩
      · refine pw_if_eq 59 (px_at td_Mo_never 30 rfl) (by decide) (fun _ => ?_) (fun hn => absurd hc5 hn)
        exact Mo_never_n59_l h hC hX0
      · refine pw_if_eq 59 (px_at td_Mo_never 30 rfl) (by decide) (fun hn => absurd hn hc5) (fun _ => ?_)
        refine pw_iload_n 3 (px_at td_Mo_never 31 rfl) rfl rfl ?_
        refine pw_iconst (v := 1) (px_at td_Mo_never 32 rfl) (by decide) ?_
        refine pw_iload 4 (px_at td_Mo_never 33 rfl) rfl ?_
        refine pw_ishl (px_at td_Mo_never 34 rfl) ?_
        refine pw_ior (px_at td_Mo_never 35 rfl) ?_
        refine pw_istore_n (L' := [(3, .inl (v3 ||| (1 <<< (v4 &&& 31)))), (0, .inr (some (0, 0, 0))), (1, .inl v1), (2, .inl v2), (4, .inl v4)]) (px_at td_Mo_never 36 rfl) rfl (by decide) rfl ?_
        refine pw_L [(0, .inr (some (0, 0, 0))), (1, .inl v1), (2, .inl v2), (3, .inl (v3 ||| (1 <<< (v4 &&& 31)))), (4, .inl v4)] [1, 2, 3, 0, 4] rfl ?_
        exact Mo_never_n59_l h hC hX0
    · refine pw_icmp_ne 65 (px_at td_Mo_never 23 rfl) (by decide) (fun _ => ?_) (fun hn => absurd hn hc6)
      refine pw_L [(3, .inl v3)] [3] rfl ?_
      exact hX0 v3 (Option.some.inj h).symm
def Mo_never_L26 (σ : pxS) (v1 : Int32) (v2 : Int32) : (Int32 × Int32) → Option ((Int32 × Int32) ⊕ (Int32)) := fun s => Mo_never_n26 σ v1 v2 s.1 s.2
set_option maxRecDepth 100000 in
theorem Mo_never_L26_l {l : Launch} {ids : List pxI} {Rt : Option pxV → List pxI → pxG → pxS → Prop} {σ : pxS} {v1 : Int32} {v2 : Int32} {n : Nat} {s : Int32 × Int32} {e : Int32} (h : px_it (Mo_never_L26 σ v1 v2) n s = some e) (hX0 : pw l (px_R 3) y_Mo_never c_Mo_never 5 (some .int) 65 [(3, .inl e)] [] ids mG σ 0 0 Rt) : pw l (px_R 3) y_Mo_never c_Mo_never 5 (some .int) 26 [(0, .inr (some (0, 0, 0))), (1, .inl v1), (2, .inl v2), (3, .inl s.1), (4, .inl s.2)] [] ids mG σ 0 0 Rt := by
  refine px_it_rule (f := Mo_never_L26 σ v1 v2) (C := fun s => pw l (px_R 3) y_Mo_never c_Mo_never 5 (some .int) 26 [(0, .inr (some (0, 0, 0))), (1, .inl v1), (2, .inl v2), (3, .inl s.1), (4, .inl s.2)] [] ids mG σ 0 0 Rt) (X := fun e => (pw l (px_R 3) y_Mo_never c_Mo_never 5 (some .int) 65 [(3, .inl e)] [] ids mG σ 0 0 Rt)) ?_ ?_ n s e h hX0
  · intro s s1 hf hC
    exact Mo_never_n26_l hf (fun s2 hs => by cases hs; exact hC) (fun e he => by cases he)
  · intro s e hf hX
    exact Mo_never_n26_l hf (fun s2 hs => by cases hs) (fun e1 he => by cases he; exact hX)
def F_Mo_never (σ : pxS) (v1 : Int32) : Option (Int32 × pxS) :=
  px_l (px_up σ (0, 0, 0) 0 0) fun σ1 =>
  (if v1 < 0 then Mo_never_n14 σ1  else (if v1 ≤ 1 then px_b1 (F_Mo_inRings σ1 ) fun r2 =>
  px_b1 (px_it (Mo_never_L26 σ1 v1 r2) px_N (r2, 0)) fun e8 =>
  some (e8, σ1) else Mo_never_n14 σ1 ))
set_option maxRecDepth 100000 in
theorem e_Mo_never {l : Launch} {ids : List pxI} {Rt : Option pxV → List pxI → pxG → pxS → Prop} {σ : pxS} {v1 : Int32} {res : Int32 × pxS} (h : F_Mo_never σ v1 = some res) (hR : Rt (some (.inl res.1)) ids mG res.2) : pw l (px_R 3) y_Mo_never c_Mo_never 5 (some .int) 0 [(0, .inr (some (0, 0, 0))), (1, .inl v1)] [] ids mG σ 0 0 Rt := by
  unfold F_Mo_never at h
  refine pw_aload_n 0 (px_at td_Mo_never 0 rfl) rfl rfl ?_
  refine pw_iconst (v := 0) (px_at td_Mo_never 1 rfl) (by decide) ?_
  obtain ⟨σ1, hσ1, h⟩ := px_l_e h
  refine pw_puti (px_at td_Mo_never 2 rfl) lw_Mo_99 rfl rfl (pw_s hσ1 ?_)
  refine pw_iload_n 1 (px_at td_Mo_never 3 rfl) rfl rfl ?_
  rcases px_ite h with ⟨hc10, h⟩ | ⟨hc10, h⟩
  · refine pw_if_lt 14 (px_at td_Mo_never 4 rfl) (by decide) (fun _ => ?_) (fun hn => absurd hc10 hn)
    refine pw_L [] [] rfl ?_
    exact Mo_never_n14_l h hR
  · refine pw_if_lt 14 (px_at td_Mo_never 4 rfl) (by decide) (fun hn => absurd hn hc10) (fun _ => ?_)
    refine pw_iload_n 1 (px_at td_Mo_never 5 rfl) rfl rfl ?_
    refine pw_iconst (v := 1) (px_at td_Mo_never 6 rfl) (by decide) ?_
    rcases px_ite h with ⟨hc9, h⟩ | ⟨hc9, h⟩
    · refine pw_icmp_le 16 (px_at td_Mo_never 7 rfl) (by decide) (fun _ => ?_) (fun hn => absurd hc9 hn)
      refine pw_aload_n 0 (px_at td_Mo_never 10 rfl) rfl rfl ?_
      obtain ⟨r2, hk2, h⟩ := px_b1_e h
      refine pw_cV1 (0, 0, 0) [] [] (px_at td_Mo_never 11 rfl) lV_Mo_306 rfl rfl rfl (Nat.le_of_ble_eq_true rfl) (by decide) (k_Mo_inRings hk2) ?_
      refine pw_istore_n (L' := [(2, .inl r2), (0, .inr (some (0, 0, 0))), (1, .inl v1)]) (px_at td_Mo_never 12 rfl) rfl (by decide) rfl ?_
      refine pw_iload_n 0 (px_at td_Mo_never 13 rfl) rfl rfl ?_
      refine pw_istore_n (L' := [(3, .inl r2), (2, .inl r2), (0, .inr (some (0, 0, 0))), (1, .inl v1)]) (px_at td_Mo_never 14 rfl) rfl (by decide) rfl ?_
      refine pw_iconst (v := 0) (px_at td_Mo_never 15 rfl) (by decide) ?_
      refine pw_istore (L' := [(4, .inl 0), (3, .inl r2), (2, .inl r2), (0, .inr (some (0, 0, 0))), (1, .inl v1)]) (px_at td_Mo_never 16 rfl) (by decide) rfl ?_
      obtain ⟨e8, he8, h⟩ := px_b1_e h
      refine pw_L [(0, .inr (some (0, 0, 0))), (1, .inl v1), (2, .inl r2), (3, .inl r2), (4, .inl 0)] [3, 4, 2, 1, 0] rfl ?_
      refine Mo_never_L26_l he8 ?_
      refine pw_iload_n 0 (px_at td_Mo_never 39 rfl) rfl rfl ?_
      obtain rfl := Option.some.inj h
      exact pw_iret (px_at td_Mo_never 40 rfl) rfl (Nat.le_refl 0) (Nat.le_refl 0) hR
    · refine pw_icmp_le 16 (px_at td_Mo_never 7 rfl) (by decide) (fun hn => absurd hn hc9) (fun _ => ?_)
      refine pw_L [] [] rfl ?_
      exact Mo_never_n14_l h hR
theorem k_Mo_never {l : Launch} {ids : List pxI} {σ : pxS} {v1 : Int32} {res : Int32 × pxS} (h : F_Mo_never σ v1 = some res) : pm l y_Mo_never c_Mo_never 5 (some .int) (px_R 3) [.inr (some (0, 0, 0)), .inl v1] ids mG σ (px_r (some (.inl res.1)) ids mG res.2) :=
  pm_ofF (by decide +kernel) (Nat.le_of_ble_eq_true rfl) (e_Mo_never h ⟨rfl, rfl, rfl, rfl⟩)
/-! Mo_heatAt -/
def Mo_heatAt_n5 (σ : pxS) (v1 : Int32) (v2 : Int32) (v3 : Int32) (v4 : Int32) : Option ((Int32 × Int32) ⊕ (Int32)) :=
  px_b1 (F_Mo_rails σ ) fun r1 =>
  (if r1 ≤ v4 then some (.inr v3) else (if ((v1 >>> (v4 &&& 31)) &&& 1) = 1 then px_gd ((13 * v4) + 6) 308 (some (.inl ((v3 + (σ (1, 28, 0) ((13 * v4) + 6).toNatClampNeg)), (v4 + 1)))) else some (.inl ((v3 + 0), (v4 + 1)))))
set_option maxRecDepth 100000 in
theorem Mo_heatAt_n5_l {l : Launch} {ids : List pxI} {Rt : Option pxV → List pxI → pxG → pxS → Prop} {σ : pxS} {v1 : Int32} {v2 : Int32} {v3 : Int32} {v4 : Int32} {o : (Int32 × Int32) ⊕ (Int32)} (h : Mo_heatAt_n5 σ v1 v2 v3 v4 = some o) (hC : ∀ s, o = .inl s → pw l (px_R 2) y_Mo_heatAt c_Mo_heatAt 5 (some .int) 5 [(0, .inr (some (0, 0, 0))), (1, .inl v1), (2, .inl v2), (3, .inl s.1), (4, .inl s.2)] [] ids mG σ 0 0 Rt) (hX0 : ∀ e, o = .inr e → pw l (px_R 2) y_Mo_heatAt c_Mo_heatAt 5 (some .int) 50 [(0, .inr (some (0, 0, 0))), (2, .inl v2), (3, .inl e)] [] ids mG σ 0 0 Rt) : pw l (px_R 2) y_Mo_heatAt c_Mo_heatAt 5 (some .int) 5 [(0, .inr (some (0, 0, 0))), (1, .inl v1), (2, .inl v2), (3, .inl v3), (4, .inl v4)] [] ids mG σ 0 0 Rt := by
  unfold Mo_heatAt_n5 at h
  refine pw_iload 4 (px_at td_Mo_heatAt 4 rfl) rfl ?_
  refine pw_aload_n 0 (px_at td_Mo_heatAt 5 rfl) rfl rfl ?_
  obtain ⟨r1, hk1, h⟩ := px_b1_e h
  refine pw_cV1 (0, 0, 0) [] [.inl v4] (px_at td_Mo_heatAt 6 rfl) lV_Mo_223 rfl rfl rfl (Nat.le_of_ble_eq_true rfl) (by decide) (k_Mo_rails hk1) ?_
  rcases px_ite h with ⟨hc4, h⟩ | ⟨hc4, h⟩
  · refine pw_icmp_ge 50 (px_at td_Mo_heatAt 7 rfl) (by decide) (fun _ => ?_) (fun hn => absurd hc4 hn)
    refine pw_L [(0, .inr (some (0, 0, 0))), (2, .inl v2), (3, .inl v3)] [0, 2, 3] rfl ?_
    exact hX0 v3 (Option.some.inj h).symm
  · refine pw_icmp_ge 50 (px_at td_Mo_heatAt 7 rfl) (by decide) (fun hn => absurd hn hc4) (fun _ => ?_)
    refine pw_iload_n 3 (px_at td_Mo_heatAt 8 rfl) rfl rfl ?_
    refine pw_iload_n 1 (px_at td_Mo_heatAt 9 rfl) rfl rfl ?_
    refine pw_iload 4 (px_at td_Mo_heatAt 10 rfl) rfl ?_
    refine pw_ishr (px_at td_Mo_heatAt 11 rfl) ?_
    refine pw_iconst (v := 1) (px_at td_Mo_heatAt 12 rfl) (by decide) ?_
    refine pw_iand (px_at td_Mo_heatAt 13 rfl) ?_
    refine pw_iconst (v := 1) (px_at td_Mo_heatAt 14 rfl) (by decide) ?_
    rcases px_ite h with ⟨hc3, h⟩ | ⟨hc3, h⟩
    · refine pw_icmp_ne 41 (px_at td_Mo_heatAt 15 rfl) (by decide) (fun hn => absurd hc3 hn) (fun _ => ?_)
      refine pw_aload_n 0 (px_at td_Mo_heatAt 16 rfl) rfl rfl ?_
      refine pw_getf (v := .inr (some (1, 28, 0))) (px_at td_Mo_heatAt 17 rfl) lf_Mo_63 rfl rfl rfl ?_
      refine pw_bipush (v := 13) (px_at td_Mo_heatAt 18 rfl) (by decide) ?_
      refine pw_iload 4 (px_at td_Mo_heatAt 19 rfl) rfl ?_
      refine pw_imul (px_at td_Mo_heatAt 20 rfl) ?_
      refine pw_bipush (v := 6) (px_at td_Mo_heatAt 21 rfl) (by decide) ?_
      refine pw_iadd (px_at td_Mo_heatAt 22 rfl) ?_
      obtain ⟨hi2, h⟩ := px_gd_e h
      refine pw_ial (px_at td_Mo_heatAt 23 rfl) rfl hi2 rfl ?_
      refine pw_goto 42 (px_at td_Mo_heatAt 24 rfl) (by decide) ?_
      refine pw_iadd (px_at td_Mo_heatAt 26 rfl) ?_
      refine pw_istore_n (L' := [(3, .inl (v3 + (σ (1, 28, 0) ((13 * v4) + 6).toNatClampNeg))), (0, .inr (some (0, 0, 0))), (1, .inl v1), (2, .inl v2), (4, .inl v4)]) (px_at td_Mo_heatAt 27 rfl) rfl (by decide) rfl ?_
      refine pw_iinc (q := 4) (v := (v4 + 1)) (L' := [(4, .inl (v4 + 1)), (3, .inl (v3 + (σ (1, 28, 0) ((13 * v4) + 6).toNatClampNeg))), (0, .inr (some (0, 0, 0))), (1, .inl v1), (2, .inl v2)]) (px_at td_Mo_heatAt 28 rfl) rfl rfl (by decide) rfl ?_
      refine pw_goto 5 (px_at td_Mo_heatAt 29 rfl) (by decide) ?_
      refine pw_L [(0, .inr (some (0, 0, 0))), (1, .inl v1), (2, .inl v2), (3, .inl (v3 + (σ (1, 28, 0) ((13 * v4) + 6).toNatClampNeg))), (4, .inl (v4 + 1))] [2, 3, 4, 1, 0] rfl ?_
      exact hC ((v3 + (σ (1, 28, 0) ((13 * v4) + 6).toNatClampNeg)), (v4 + 1)) (Option.some.inj h).symm
    · refine pw_icmp_ne 41 (px_at td_Mo_heatAt 15 rfl) (by decide) (fun _ => ?_) (fun hn => absurd hn hc3)
      refine pw_iconst (v := 0) (px_at td_Mo_heatAt 25 rfl) (by decide) ?_
      refine pw_iadd (px_at td_Mo_heatAt 26 rfl) ?_
      refine pw_istore_n (L' := [(3, .inl (v3 + 0)), (0, .inr (some (0, 0, 0))), (1, .inl v1), (2, .inl v2), (4, .inl v4)]) (px_at td_Mo_heatAt 27 rfl) rfl (by decide) rfl ?_
      refine pw_iinc (q := 4) (v := (v4 + 1)) (L' := [(4, .inl (v4 + 1)), (3, .inl (v3 + 0)), (0, .inr (some (0, 0, 0))), (1, .inl v1), (2, .inl v2)]) (px_at td_Mo_heatAt 28 rfl) rfl rfl (by decide) rfl ?_
      refine pw_goto 5 (px_at td_Mo_heatAt 29 rfl) (by decide) ?_
      refine pw_L [(0, .inr (some (0, 0, 0))), (1, .inl v1), (2, .inl v2), (3, .inl (v3 + 0)), (4, .inl (v4 + 1))] [2, 3, 4, 1, 0] rfl ?_
      exact hC ((v3 + 0), (v4 + 1)) (Option.some.inj h).symm
def Mo_heatAt_L5 (σ : pxS) (v1 : Int32) (v2 : Int32) : (Int32 × Int32) → Option ((Int32 × Int32) ⊕ (Int32)) := fun s => Mo_heatAt_n5 σ v1 v2 s.1 s.2
set_option maxRecDepth 100000 in
theorem Mo_heatAt_L5_l {l : Launch} {ids : List pxI} {Rt : Option pxV → List pxI → pxG → pxS → Prop} {σ : pxS} {v1 : Int32} {v2 : Int32} {n : Nat} {s : Int32 × Int32} {e : Int32} (h : px_it (Mo_heatAt_L5 σ v1 v2) n s = some e) (hX0 : pw l (px_R 2) y_Mo_heatAt c_Mo_heatAt 5 (some .int) 50 [(0, .inr (some (0, 0, 0))), (2, .inl v2), (3, .inl e)] [] ids mG σ 0 0 Rt) : pw l (px_R 2) y_Mo_heatAt c_Mo_heatAt 5 (some .int) 5 [(0, .inr (some (0, 0, 0))), (1, .inl v1), (2, .inl v2), (3, .inl s.1), (4, .inl s.2)] [] ids mG σ 0 0 Rt := by
  refine px_it_rule (f := Mo_heatAt_L5 σ v1 v2) (C := fun s => pw l (px_R 2) y_Mo_heatAt c_Mo_heatAt 5 (some .int) 5 [(0, .inr (some (0, 0, 0))), (1, .inl v1), (2, .inl v2), (3, .inl s.1), (4, .inl s.2)] [] ids mG σ 0 0 Rt) (X := fun e => (pw l (px_R 2) y_Mo_heatAt c_Mo_heatAt 5 (some .int) 50 [(0, .inr (some (0, 0, 0))), (2, .inl v2), (3, .inl e)] [] ids mG σ 0 0 Rt)) ?_ ?_ n s e h hX0
  · intro s s1 hf hC
    exact Mo_heatAt_n5_l hf (fun s2 hs => by cases hs; exact hC) (fun e he => by cases he)
  · intro s e hf hX
    exact Mo_heatAt_n5_l hf (fun s2 hs => by cases hs) (fun e1 he => by cases he; exact hX)
def F_Mo_heatAt (σ : pxS) (v1 : Int32) (v2 : Int32) : Option (Int32) :=
  px_b1 (px_it (Mo_heatAt_L5 σ v1 v2) px_N (0, 0)) fun e5 =>
  px_gd v2 24 (px_gd v2 24 ((if (σ (1, 7, 0) v2.toNatClampNeg) ≤ (σ (1, 8, 0) v2.toNatClampNeg) then px_gd v2 24 (px_gd ((13 * v2) + 6) 308 (px_gd v2 24 (some (((e5 + (σ (1, 28, 0) ((13 * v2) + 6).toNatClampNeg)) + (((σ (1, 9, 0) v2.toNatClampNeg) * (σ (1, 7, 0) v2.toNatClampNeg)) / 16)))))) else px_gd v2 24 (px_gd ((13 * v2) + 6) 308 (px_gd v2 24 (some (((e5 + (σ (1, 28, 0) ((13 * v2) + 6).toNatClampNeg)) + (((σ (1, 9, 0) v2.toNatClampNeg) * (σ (1, 8, 0) v2.toNatClampNeg)) / 16)))))))))
set_option maxRecDepth 100000 in
theorem e_Mo_heatAt {l : Launch} {ids : List pxI} {Rt : Option pxV → List pxI → pxG → pxS → Prop} {σ : pxS} {v1 : Int32} {v2 : Int32} {res : Int32} (h : F_Mo_heatAt σ v1 v2 = some res) (hR : Rt (some (.inl res)) ids mG σ) : pw l (px_R 2) y_Mo_heatAt c_Mo_heatAt 5 (some .int) 0 [(0, .inr (some (0, 0, 0))), (1, .inl v1), (2, .inl v2)] [] ids mG σ 0 0 Rt := by
  unfold F_Mo_heatAt at h
  refine pw_iconst (v := 0) (px_at td_Mo_heatAt 0 rfl) (by decide) ?_
  refine pw_istore_n (L' := [(3, .inl 0), (0, .inr (some (0, 0, 0))), (1, .inl v1), (2, .inl v2)]) (px_at td_Mo_heatAt 1 rfl) rfl (by decide) rfl ?_
  refine pw_iconst (v := 0) (px_at td_Mo_heatAt 2 rfl) (by decide) ?_
  refine pw_istore (L' := [(4, .inl 0), (3, .inl 0), (0, .inr (some (0, 0, 0))), (1, .inl v1), (2, .inl v2)]) (px_at td_Mo_heatAt 3 rfl) (by decide) rfl ?_
  obtain ⟨e5, he5, h⟩ := px_b1_e h
  refine pw_L [(0, .inr (some (0, 0, 0))), (1, .inl v1), (2, .inl v2), (3, .inl 0), (4, .inl 0)] [2, 3, 4, 1, 0] rfl ?_
  refine Mo_heatAt_L5_l he5 ?_
  refine pw_aload_n 0 (px_at td_Mo_heatAt 30 rfl) rfl rfl ?_
  refine pw_getf (v := .inr (some (1, 8, 0))) (px_at td_Mo_heatAt 31 rfl) lf_Mo_29 rfl rfl rfl ?_
  refine pw_iload_n 1 (px_at td_Mo_heatAt 32 rfl) rfl rfl ?_
  obtain ⟨hi6, h⟩ := px_gd_e h
  refine pw_ial (px_at td_Mo_heatAt 33 rfl) rfl hi6 rfl ?_
  refine pw_aload_n 0 (px_at td_Mo_heatAt 34 rfl) rfl rfl ?_
  refine pw_getf (v := .inr (some (1, 7, 0))) (px_at td_Mo_heatAt 35 rfl) lf_Mo_26 rfl rfl rfl ?_
  refine pw_iload_n 1 (px_at td_Mo_heatAt 36 rfl) rfl rfl ?_
  obtain ⟨hi7, h⟩ := px_gd_e h
  refine pw_ial (px_at td_Mo_heatAt 37 rfl) rfl hi7 rfl ?_
  rcases px_ite h with ⟨hc14, h⟩ | ⟨hc14, h⟩
  · refine pw_icmp_ge 74 (px_at td_Mo_heatAt 38 rfl) (by decide) (fun _ => ?_) (fun hn => absurd hc14 hn)
    refine pw_aload_n 0 (px_at td_Mo_heatAt 44 rfl) rfl rfl ?_
    refine pw_getf (v := .inr (some (1, 7, 0))) (px_at td_Mo_heatAt 45 rfl) lf_Mo_26 rfl rfl rfl ?_
    refine pw_iload_n 1 (px_at td_Mo_heatAt 46 rfl) rfl rfl ?_
    obtain ⟨hi8, h⟩ := px_gd_e h
    refine pw_ial (px_at td_Mo_heatAt 47 rfl) rfl hi8 rfl ?_
    refine pw_istore (L' := [(4, .inl (σ (1, 7, 0) v2.toNatClampNeg)), (0, .inr (some (0, 0, 0))), (2, .inl v2), (3, .inl e5)]) (px_at td_Mo_heatAt 48 rfl) (by decide) rfl ?_
    refine pw_iload_n 3 (px_at td_Mo_heatAt 49 rfl) rfl rfl ?_
    refine pw_aload_n 1 (px_at td_Mo_heatAt 50 rfl) rfl rfl ?_
    refine pw_getf (v := .inr (some (1, 28, 0))) (px_at td_Mo_heatAt 51 rfl) lf_Mo_63 rfl rfl rfl ?_
    refine pw_bipush (v := 13) (px_at td_Mo_heatAt 52 rfl) (by decide) ?_
    refine pw_iload_n 2 (px_at td_Mo_heatAt 53 rfl) rfl rfl ?_
    refine pw_imul (px_at td_Mo_heatAt 54 rfl) ?_
    refine pw_bipush (v := 6) (px_at td_Mo_heatAt 55 rfl) (by decide) ?_
    refine pw_iadd (px_at td_Mo_heatAt 56 rfl) ?_
    obtain ⟨hi9, h⟩ := px_gd_e h
    refine pw_ial (px_at td_Mo_heatAt 57 rfl) rfl hi9 rfl ?_
    refine pw_iadd (px_at td_Mo_heatAt 58 rfl) ?_
    refine pw_aload_n 1 (px_at td_Mo_heatAt 59 rfl) rfl rfl ?_
    refine pw_getf (v := .inr (some (1, 9, 0))) (px_at td_Mo_heatAt 60 rfl) lf_Mo_32 rfl rfl rfl ?_
    refine pw_iload_n 2 (px_at td_Mo_heatAt 61 rfl) rfl rfl ?_
    obtain ⟨hi10, h⟩ := px_gd_e h
    refine pw_ial (px_at td_Mo_heatAt 62 rfl) rfl hi10 rfl ?_
    refine pw_iload 0 (px_at td_Mo_heatAt 63 rfl) rfl ?_
    refine pw_imul (px_at td_Mo_heatAt 64 rfl) ?_
    refine pw_bipush (v := 16) (px_at td_Mo_heatAt 65 rfl) (by decide) ?_
    refine pw_idiv (px_at td_Mo_heatAt 66 rfl) (by decide) ?_
    refine pw_iadd (px_at td_Mo_heatAt 67 rfl) ?_
    obtain rfl := Option.some.inj h
    exact pw_iret (px_at td_Mo_heatAt 68 rfl) rfl (Nat.le_refl 0) (Nat.le_refl 0) hR
  · refine pw_icmp_ge 74 (px_at td_Mo_heatAt 38 rfl) (by decide) (fun hn => absurd hn hc14) (fun _ => ?_)
    refine pw_aload_n 0 (px_at td_Mo_heatAt 39 rfl) rfl rfl ?_
    refine pw_getf (v := .inr (some (1, 8, 0))) (px_at td_Mo_heatAt 40 rfl) lf_Mo_29 rfl rfl rfl ?_
    refine pw_iload_n 1 (px_at td_Mo_heatAt 41 rfl) rfl rfl ?_
    obtain ⟨hi11, h⟩ := px_gd_e h
    refine pw_ial (px_at td_Mo_heatAt 42 rfl) rfl hi11 rfl ?_
    refine pw_goto 80 (px_at td_Mo_heatAt 43 rfl) (by decide) ?_
    refine pw_istore (L' := [(4, .inl (σ (1, 8, 0) v2.toNatClampNeg)), (0, .inr (some (0, 0, 0))), (2, .inl v2), (3, .inl e5)]) (px_at td_Mo_heatAt 48 rfl) (by decide) rfl ?_
    refine pw_iload_n 3 (px_at td_Mo_heatAt 49 rfl) rfl rfl ?_
    refine pw_aload_n 1 (px_at td_Mo_heatAt 50 rfl) rfl rfl ?_
    refine pw_getf (v := .inr (some (1, 28, 0))) (px_at td_Mo_heatAt 51 rfl) lf_Mo_63 rfl rfl rfl ?_
    refine pw_bipush (v := 13) (px_at td_Mo_heatAt 52 rfl) (by decide) ?_
    refine pw_iload_n 2 (px_at td_Mo_heatAt 53 rfl) rfl rfl ?_
    refine pw_imul (px_at td_Mo_heatAt 54 rfl) ?_
    refine pw_bipush (v := 6) (px_at td_Mo_heatAt 55 rfl) (by decide) ?_
    refine pw_iadd (px_at td_Mo_heatAt 56 rfl) ?_
    obtain ⟨hi12, h⟩ := px_gd_e h
    refine pw_ial (px_at td_Mo_heatAt 57 rfl) rfl hi12 rfl ?_
    refine pw_iadd (px_at td_Mo_heatAt 58 rfl) ?_
    refine pw_aload_n 1 (px_at td_Mo_heatAt 59 rfl) rfl rfl ?_
    refine pw_getf (v := .inr (some (1, 9, 0))) (px_at td_Mo_heatAt 60 rfl) lf_Mo_32 rfl rfl rfl ?_
    refine pw_iload_n 2 (px_at td_Mo_heatAt 61 rfl) rfl rfl ?_
    obtain ⟨hi13, h⟩ := px_gd_e h
    refine pw_ial (px_at td_Mo_heatAt 62 rfl) rfl hi13 rfl ?_
    refine pw_iload 0 (px_at td_Mo_heatAt 63 rfl) rfl ?_
    refine pw_imul (px_at td_Mo_heatAt 64 rfl) ?_
    refine pw_bipush (v := 16) (px_at td_Mo_heatAt 65 rfl) (by decide) ?_
    refine pw_idiv (px_at td_Mo_heatAt 66 rfl) (by decide) ?_
    refine pw_iadd (px_at td_Mo_heatAt 67 rfl) ?_
    obtain rfl := Option.some.inj h
    exact pw_iret (px_at td_Mo_heatAt 68 rfl) rfl (Nat.le_refl 0) (Nat.le_refl 0) hR
theorem k_Mo_heatAt {l : Launch} {ids : List pxI} {σ : pxS} {v1 : Int32} {v2 : Int32} {res : Int32} (h : F_Mo_heatAt σ v1 v2 = some res) : pm l y_Mo_heatAt c_Mo_heatAt 5 (some .int) (px_R 2) [.inr (some (0, 0, 0)), .inl v1, .inl v2] ids mG σ (px_r (some (.inl res)) ids mG σ) :=
  pm_ofF (by decide +kernel) (Nat.le_of_ble_eq_true rfl) (e_Mo_heatAt h ⟨rfl, rfl, rfl, rfl⟩)
/-! Mo_greater -/
def F_Mo_greater (σ : pxS) (v0 : Int32) (v1 : Int32) : Option (Int32) :=
  (if v0 ≤ v1 then some (v1) else some (v0))
set_option maxRecDepth 100000 in
theorem e_Mo_greater {l : Launch} {ids : List pxI} {Rt : Option pxV → List pxI → pxG → pxS → Prop} {σ : pxS} {v0 : Int32} {v1 : Int32} {res : Int32} (h : F_Mo_greater σ v0 v1 = some res) (hR : Rt (some (.inl res)) ids mG σ) : pw l (px_R 1) y_Mo_greater c_Mo_greater 2 (some .int) 0 [(0, .inl v0), (1, .inl v1)] [] ids mG σ 0 0 Rt := by
  unfold F_Mo_greater at h
  refine pw_iload_n 0 (px_at td_Mo_greater 0 rfl) rfl rfl ?_
  refine pw_iload_n 1 (px_at td_Mo_greater 1 rfl) rfl rfl ?_
  rcases px_ite h with ⟨hc1, h⟩ | ⟨hc1, h⟩
  · refine pw_icmp_le 9 (px_at td_Mo_greater 2 rfl) (by decide) (fun _ => ?_) (fun hn => absurd hc1 hn)
    refine pw_iload_n 1 (px_at td_Mo_greater 5 rfl) rfl rfl ?_
    obtain rfl := Option.some.inj h
    exact pw_iret (px_at td_Mo_greater 6 rfl) rfl (Nat.le_refl 0) (Nat.le_refl 0) hR
  · refine pw_icmp_le 9 (px_at td_Mo_greater 2 rfl) (by decide) (fun hn => absurd hn hc1) (fun _ => ?_)
    refine pw_iload_n 0 (px_at td_Mo_greater 3 rfl) rfl rfl ?_
    refine pw_goto 10 (px_at td_Mo_greater 4 rfl) (by decide) ?_
    obtain rfl := Option.some.inj h
    exact pw_iret (px_at td_Mo_greater 6 rfl) rfl (Nat.le_refl 0) (Nat.le_refl 0) hR
theorem k_Mo_greater {l : Launch} {ids : List pxI} {σ : pxS} {v0 : Int32} {v1 : Int32} {res : Int32} (h : F_Mo_greater σ v0 v1 = some res) : pm l y_Mo_greater c_Mo_greater 2 (some .int) (px_R 1) [.inl v0, .inl v1] ids mG σ (px_r (some (.inl res)) ids mG σ) :=
  pm_ofF (by decide +kernel) (Nat.le_of_ble_eq_true rfl) (e_Mo_greater h ⟨rfl, rfl, rfl, rfl⟩)
/-! Mo_mayCome -/
def Mo_mayCome_n25 (σ : pxS)  : Option (Int32) :=
  some (0)
set_option maxRecDepth 100000 in
theorem Mo_mayCome_n25_l {l : Launch} {ids : List pxI} {Rt : Option pxV → List pxI → pxG → pxS → Prop} {σ : pxS}  {res : Int32} (h : Mo_mayCome_n25 σ  = some res) (hR : Rt (some (.inl res)) ids mG σ) : pw l (px_R 1) y_Mo_mayCome c_Mo_mayCome 3 (some .boolean) 25 [] [] ids mG σ 0 0 Rt := by
  unfold Mo_mayCome_n25 at h
  refine pw_iconst (v := 0) (px_at td_Mo_mayCome 17 rfl) (by decide) ?_
  obtain rfl := Option.some.inj h
  exact pw_zret (px_at td_Mo_mayCome 18 rfl) rfl (by decide) (Nat.le_refl 0) (Nat.le_refl 0) hR
def F_Mo_mayCome (σ : pxS) (v1 : Int32) (v2 : Int32) : Option (Int32) :=
  (if ((v1 >>> (v2 &&& 31)) &&& 1) = 0 then px_gd v2 12 ((if ((σ (1, 26, 0) v2.toNatClampNeg) &&& (v1 ^^^ (-1))) = 0 then some (1) else Mo_mayCome_n25 σ )) else Mo_mayCome_n25 σ )
set_option maxRecDepth 100000 in
theorem e_Mo_mayCome {l : Launch} {ids : List pxI} {Rt : Option pxV → List pxI → pxG → pxS → Prop} {σ : pxS} {v1 : Int32} {v2 : Int32} {res : Int32} (h : F_Mo_mayCome σ v1 v2 = some res) (hR : Rt (some (.inl res)) ids mG σ) : pw l (px_R 1) y_Mo_mayCome c_Mo_mayCome 3 (some .boolean) 0 [(0, .inr (some (0, 0, 0))), (1, .inl v1), (2, .inl v2)] [] ids mG σ 0 0 Rt := by
  unfold F_Mo_mayCome at h
  refine pw_iload_n 1 (px_at td_Mo_mayCome 0 rfl) rfl rfl ?_
  refine pw_iload_n 2 (px_at td_Mo_mayCome 1 rfl) rfl rfl ?_
  refine pw_ishr (px_at td_Mo_mayCome 2 rfl) ?_
  refine pw_iconst (v := 1) (px_at td_Mo_mayCome 3 rfl) (by decide) ?_
  refine pw_iand (px_at td_Mo_mayCome 4 rfl) ?_
  rcases px_ite h with ⟨hc3, h⟩ | ⟨hc3, h⟩
  · refine pw_if_ne 25 (px_at td_Mo_mayCome 5 rfl) (by decide) (fun hn => absurd hc3 hn) (fun _ => ?_)
    refine pw_aload_n 0 (px_at td_Mo_mayCome 6 rfl) rfl rfl ?_
    refine pw_getf (v := .inr (some (1, 26, 0))) (px_at td_Mo_mayCome 7 rfl) lf_Mo_57 rfl rfl rfl ?_
    refine pw_iload_n 2 (px_at td_Mo_mayCome 8 rfl) rfl rfl ?_
    obtain ⟨hi1, h⟩ := px_gd_e h
    refine pw_ial (px_at td_Mo_mayCome 9 rfl) rfl hi1 rfl ?_
    refine pw_iload_n 1 (px_at td_Mo_mayCome 10 rfl) rfl rfl ?_
    refine pw_iconst (v := (-1)) (px_at td_Mo_mayCome 11 rfl) (by decide) ?_
    refine pw_ixor (px_at td_Mo_mayCome 12 rfl) ?_
    refine pw_iand (px_at td_Mo_mayCome 13 rfl) ?_
    rcases px_ite h with ⟨hc2, h⟩ | ⟨hc2, h⟩
    · refine pw_if_ne 25 (px_at td_Mo_mayCome 14 rfl) (by decide) (fun hn => absurd hc2 hn) (fun _ => ?_)
      refine pw_iconst (v := 1) (px_at td_Mo_mayCome 15 rfl) (by decide) ?_
      refine pw_goto 26 (px_at td_Mo_mayCome 16 rfl) (by decide) ?_
      obtain rfl := Option.some.inj h
      exact pw_zret (px_at td_Mo_mayCome 18 rfl) rfl (by decide) (Nat.le_refl 0) (Nat.le_refl 0) hR
    · refine pw_if_ne 25 (px_at td_Mo_mayCome 14 rfl) (by decide) (fun _ => ?_) (fun hn => absurd hn hc2)
      refine pw_L [] [] rfl ?_
      exact Mo_mayCome_n25_l h hR
  · refine pw_if_ne 25 (px_at td_Mo_mayCome 5 rfl) (by decide) (fun _ => ?_) (fun hn => absurd hn hc3)
    refine pw_L [] [] rfl ?_
    exact Mo_mayCome_n25_l h hR
theorem k_Mo_mayCome {l : Launch} {ids : List pxI} {σ : pxS} {v1 : Int32} {v2 : Int32} {res : Int32} (h : F_Mo_mayCome σ v1 v2 = some res) : pm l y_Mo_mayCome c_Mo_mayCome 3 (some .boolean) (px_R 1) [.inr (some (0, 0, 0)), .inl v1, .inl v2] ids mG σ (px_r (some (.inl res)) ids mG σ) :=
  pm_ofF (by decide +kernel) (Nat.le_of_ble_eq_true rfl) (e_Mo_mayCome h ⟨rfl, rfl, rfl, rfl⟩)
/-! Mo_laysHeat -/
def Mo_laysHeat_n89 (σ : pxS) (v2 : Int32) (v3 : Int32) (v4 : Int32) : Option ((Int32 × Int32) ⊕ (Int32)) :=
  some (.inl (v3, (v4 + 1)))
set_option maxRecDepth 100000 in
theorem Mo_laysHeat_n89_l {l : Launch} {ids : List pxI} {Rt : Option pxV → List pxI → pxG → pxS → Prop} {σ : pxS} {v2 : Int32} {v3 : Int32} {v4 : Int32} {o : (Int32 × Int32) ⊕ (Int32)} (h : Mo_laysHeat_n89 σ v2 v3 v4 = some o) (hC : ∀ s, o = .inl s → pw l (px_R 3) y_Mo_laysHeat c_Mo_laysHeat 6 none 31 [(0, .inr (some (0, 0, 0))), (2, .inl v2), (3, .inl s.1), (4, .inl s.2)] [] ids mG σ 0 0 Rt) (hX0 : ∀ e, o = .inr e → pw l (px_R 3) y_Mo_laysHeat c_Mo_laysHeat 6 none 95 [(0, .inr (some (0, 0, 0))), (2, .inl v2), (3, .inl e)] [] ids mG σ 0 0 Rt) : pw l (px_R 3) y_Mo_laysHeat c_Mo_laysHeat 6 none 89 [(0, .inr (some (0, 0, 0))), (2, .inl v2), (3, .inl v3), (4, .inl v4)] [] ids mG σ 0 0 Rt := by
  unfold Mo_laysHeat_n89 at h
  refine pw_iinc (q := 3) (v := (v4 + 1)) (L' := [(4, .inl (v4 + 1)), (0, .inr (some (0, 0, 0))), (2, .inl v2), (3, .inl v3)]) (px_at td_Mo_laysHeat 53 rfl) rfl rfl (by decide) rfl ?_
  refine pw_goto 31 (px_at td_Mo_laysHeat 54 rfl) (by decide) ?_
  refine pw_L [(0, .inr (some (0, 0, 0))), (2, .inl v2), (3, .inl v3), (4, .inl (v4 + 1))] [1, 2, 3, 0] rfl ?_
  exact hC (v3, (v4 + 1)) (Option.some.inj h).symm
def Mo_laysHeat_n31 (σ : pxS) (v2 : Int32) (v3 : Int32) (v4 : Int32) : Option ((Int32 × Int32) ⊕ (Int32)) :=
  px_b1 (F_Mo_rails σ ) fun r4 =>
  (if r4 ≤ v4 then some (.inr v3) else px_b1 (F_Mo_mayCome σ v2 v4) fun r5 =>
  (if r5 = 0 then Mo_laysHeat_n89 σ v2 v3 v4 else px_b1 (F_Mo_heatAt σ v2 v4) fun r6 =>
  px_gd (v2 ||| (1 <<< (v4 &&& 31))) 4096 (px_b1 (F_Mo_greater σ r6 (σ (1, 39, 0) (v2 ||| (1 <<< (v4 &&& 31))).toNatClampNeg)) fun r8 =>
  (if v3 ≤ r8 then Mo_laysHeat_n89 σ v2 v3 v4 else Mo_laysHeat_n89 σ v2 r8 v4))))
set_option maxRecDepth 100000 in
theorem Mo_laysHeat_n31_l {l : Launch} {ids : List pxI} {Rt : Option pxV → List pxI → pxG → pxS → Prop} {σ : pxS} {v2 : Int32} {v3 : Int32} {v4 : Int32} {o : (Int32 × Int32) ⊕ (Int32)} (h : Mo_laysHeat_n31 σ v2 v3 v4 = some o) (hC : ∀ s, o = .inl s → pw l (px_R 3) y_Mo_laysHeat c_Mo_laysHeat 6 none 31 [(0, .inr (some (0, 0, 0))), (2, .inl v2), (3, .inl s.1), (4, .inl s.2)] [] ids mG σ 0 0 Rt) (hX0 : ∀ e, o = .inr e → pw l (px_R 3) y_Mo_laysHeat c_Mo_laysHeat 6 none 95 [(0, .inr (some (0, 0, 0))), (2, .inl v2), (3, .inl e)] [] ids mG σ 0 0 Rt) : pw l (px_R 3) y_Mo_laysHeat c_Mo_laysHeat 6 none 31 [(0, .inr (some (0, 0, 0))), (2, .inl v2), (3, .inl v3), (4, .inl v4)] [] ids mG σ 0 0 Rt := by
  unfold Mo_laysHeat_n31 at h
  refine pw_iload 3 (px_at td_Mo_laysHeat 22 rfl) rfl ?_
  refine pw_aload_n 0 (px_at td_Mo_laysHeat 23 rfl) rfl rfl ?_
  obtain ⟨r4, hk4, h⟩ := px_b1_e h
  refine pw_cV1 (0, 0, 0) [] [.inl v4] (px_at td_Mo_laysHeat 24 rfl) lV_Mo_223 rfl rfl rfl (Nat.le_of_ble_eq_true rfl) (by decide) (k_Mo_rails hk4) ?_
  rcases px_ite h with ⟨hc11, h⟩ | ⟨hc11, h⟩
  · refine pw_icmp_ge 95 (px_at td_Mo_laysHeat 25 rfl) (by decide) (fun _ => ?_) (fun hn => absurd hc11 hn)
    refine pw_L [(0, .inr (some (0, 0, 0))), (2, .inl v2), (3, .inl v3)] [0, 1, 2] rfl ?_
    exact hX0 v3 (Option.some.inj h).symm
  · refine pw_icmp_ge 95 (px_at td_Mo_laysHeat 25 rfl) (by decide) (fun hn => absurd hn hc11) (fun _ => ?_)
    refine pw_aload_n 0 (px_at td_Mo_laysHeat 26 rfl) rfl rfl ?_
    refine pw_iload_n 1 (px_at td_Mo_laysHeat 27 rfl) rfl rfl ?_
    refine pw_iload 3 (px_at td_Mo_laysHeat 28 rfl) rfl ?_
    obtain ⟨r5, hk5, h⟩ := px_b1_e h
    refine pw_cV1 (0, 0, 0) [.inl v2, .inl v4] [] (px_at td_Mo_laysHeat 29 rfl) lV_Mo_316 rfl rfl rfl (Nat.le_of_ble_eq_true rfl) (by decide) (k_Mo_mayCome hk5) ?_
    rcases px_ite h with ⟨hc10, h⟩ | ⟨hc10, h⟩
    · refine pw_if_ne 53 (px_at td_Mo_laysHeat 30 rfl) (by decide) (fun hn => absurd hc10 hn) (fun _ => ?_)
      refine pw_goto 89 (px_at td_Mo_laysHeat 31 rfl) (by decide) ?_
      exact Mo_laysHeat_n89_l h hC hX0
    · refine pw_if_ne 53 (px_at td_Mo_laysHeat 30 rfl) (by decide) (fun _ => ?_) (fun hn => absurd hn hc10)
      refine pw_aload_n 0 (px_at td_Mo_laysHeat 32 rfl) rfl rfl ?_
      refine pw_iload_n 1 (px_at td_Mo_laysHeat 33 rfl) rfl rfl ?_
      refine pw_iload 3 (px_at td_Mo_laysHeat 34 rfl) rfl ?_
      obtain ⟨r6, hk6, h⟩ := px_b1_e h
      refine pw_cV1 (0, 0, 0) [.inl v2, .inl v4] [] (px_at td_Mo_laysHeat 35 rfl) lV_Mo_320 rfl rfl rfl (Nat.le_of_ble_eq_true rfl) (by decide) (k_Mo_heatAt hk6) ?_
      refine pw_aload_n 0 (px_at td_Mo_laysHeat 36 rfl) rfl rfl ?_
      refine pw_getf (v := .inr (some (1, 39, 0))) (px_at td_Mo_laysHeat 37 rfl) lf_Mo_87 rfl rfl rfl ?_
      refine pw_iload_n 1 (px_at td_Mo_laysHeat 38 rfl) rfl rfl ?_
      refine pw_iconst (v := 1) (px_at td_Mo_laysHeat 39 rfl) (by decide) ?_
      refine pw_iload 3 (px_at td_Mo_laysHeat 40 rfl) rfl ?_
      refine pw_ishl (px_at td_Mo_laysHeat 41 rfl) ?_
      refine pw_ior (px_at td_Mo_laysHeat 42 rfl) ?_
      obtain ⟨hi7, h⟩ := px_gd_e h
      refine pw_ial (px_at td_Mo_laysHeat 43 rfl) rfl hi7 rfl ?_
      obtain ⟨r8, hk8, h⟩ := px_b1_e h
      refine pw_cS1 [.inl r6, .inl (σ (1, 39, 0) (v2 ||| (1 <<< (v4 &&& 31))).toNatClampNeg)] [] (px_at td_Mo_laysHeat 44 rfl) lS_Mo_323 rfl rfl (Nat.le_of_ble_eq_true rfl) (by decide) (k_Mo_greater hk8) ?_
      refine pw_istore (L' := [(5, .inl r8), (0, .inr (some (0, 0, 0))), (2, .inl v2), (3, .inl v3), (4, .inl v4)]) (px_at td_Mo_laysHeat 45 rfl) (by decide) rfl ?_
      refine pw_iload 0 (px_at td_Mo_laysHeat 46 rfl) rfl ?_
      refine pw_iload_n 3 (px_at td_Mo_laysHeat 47 rfl) rfl rfl ?_
      rcases px_ite h with ⟨hc9, h⟩ | ⟨hc9, h⟩
      · refine pw_icmp_ge 87 (px_at td_Mo_laysHeat 48 rfl) (by decide) (fun _ => ?_) (fun hn => absurd hc9 hn)
        refine pw_iload_n 3 (px_at td_Mo_laysHeat 51 rfl) rfl rfl ?_
        refine pw_istore_n (L' := [(3, .inl v3), (5, .inl r8), (0, .inr (some (0, 0, 0))), (2, .inl v2), (4, .inl v4)]) (px_at td_Mo_laysHeat 52 rfl) rfl (by decide) rfl ?_
        refine pw_L [(0, .inr (some (0, 0, 0))), (2, .inl v2), (3, .inl v3), (4, .inl v4)] [2, 3, 0, 4] rfl ?_
        exact Mo_laysHeat_n89_l h hC hX0
      · refine pw_icmp_ge 87 (px_at td_Mo_laysHeat 48 rfl) (by decide) (fun hn => absurd hn hc9) (fun _ => ?_)
        refine pw_iload 0 (px_at td_Mo_laysHeat 49 rfl) rfl ?_
        refine pw_goto 88 (px_at td_Mo_laysHeat 50 rfl) (by decide) ?_
        refine pw_istore_n (L' := [(3, .inl r8), (5, .inl r8), (0, .inr (some (0, 0, 0))), (2, .inl v2), (4, .inl v4)]) (px_at td_Mo_laysHeat 52 rfl) rfl (by decide) rfl ?_
        refine pw_L [(0, .inr (some (0, 0, 0))), (2, .inl v2), (3, .inl r8), (4, .inl v4)] [2, 3, 0, 4] rfl ?_
        exact Mo_laysHeat_n89_l h hC hX0
def Mo_laysHeat_L31 (σ : pxS) (v2 : Int32) : (Int32 × Int32) → Option ((Int32 × Int32) ⊕ (Int32)) := fun s => Mo_laysHeat_n31 σ v2 s.1 s.2
set_option maxRecDepth 100000 in
theorem Mo_laysHeat_L31_l {l : Launch} {ids : List pxI} {Rt : Option pxV → List pxI → pxG → pxS → Prop} {σ : pxS} {v2 : Int32} {n : Nat} {s : Int32 × Int32} {e : Int32} (h : px_it (Mo_laysHeat_L31 σ v2) n s = some e) (hX0 : pw l (px_R 3) y_Mo_laysHeat c_Mo_laysHeat 6 none 95 [(0, .inr (some (0, 0, 0))), (2, .inl v2), (3, .inl e)] [] ids mG σ 0 0 Rt) : pw l (px_R 3) y_Mo_laysHeat c_Mo_laysHeat 6 none 31 [(0, .inr (some (0, 0, 0))), (2, .inl v2), (3, .inl s.1), (4, .inl s.2)] [] ids mG σ 0 0 Rt := by
  refine px_it_rule (f := Mo_laysHeat_L31 σ v2) (C := fun s => pw l (px_R 3) y_Mo_laysHeat c_Mo_laysHeat 6 none 31 [(0, .inr (some (0, 0, 0))), (2, .inl v2), (3, .inl s.1), (4, .inl s.2)] [] ids mG σ 0 0 Rt) (X := fun e => (pw l (px_R 3) y_Mo_laysHeat c_Mo_laysHeat 6 none 95 [(0, .inr (some (0, 0, 0))), (2, .inl v2), (3, .inl e)] [] ids mG σ 0 0 Rt)) ?_ ?_ n s e h hX0
  · intro s s1 hf hC
    exact Mo_laysHeat_n31_l hf (fun s2 hs => by cases hs; exact hC) (fun e he => by cases he)
  · intro s e hf hX
    exact Mo_laysHeat_n31_l hf (fun s2 hs => by cases hs) (fun e1 he => by cases he; exact hX)
def Mo_laysHeat_n20 (σ : pxS) (v2 : Int32) : Option ((Int32 × pxS) ⊕ (pxS)) :=
  (if v2 < 0 then some (.inr σ) else px_b1 (px_it (Mo_laysHeat_L31 σ v2) px_N (268435456, 0)) fun e12 =>
  px_gd v2 4096 (px_l (px_up σ (1, 39, 0) v2.toNatClampNeg e12) fun σ14 =>
  some (.inl ((v2 + (-1)), σ14))))
set_option maxRecDepth 100000 in
theorem Mo_laysHeat_n20_l {l : Launch} {ids : List pxI} {Rt : Option pxV → List pxI → pxG → pxS → Prop} {σ : pxS} {v2 : Int32} {o : (Int32 × pxS) ⊕ (pxS)} (h : Mo_laysHeat_n20 σ v2 = some o) (hC : ∀ s, o = .inl s → pw l (px_R 3) y_Mo_laysHeat c_Mo_laysHeat 6 none 20 [(0, .inr (some (0, 0, 0))), (2, .inl s.1)] [] ids mG s.2 0 0 Rt) (hX0 : ∀ e, o = .inr e → pw l (px_R 3) y_Mo_laysHeat c_Mo_laysHeat 6 none 108 [] [] ids mG e 0 0 Rt) : pw l (px_R 3) y_Mo_laysHeat c_Mo_laysHeat 6 none 20 [(0, .inr (some (0, 0, 0))), (2, .inl v2)] [] ids mG σ 0 0 Rt := by
  unfold Mo_laysHeat_n20 at h
  refine pw_iload_n 1 (px_at td_Mo_laysHeat 16 rfl) rfl rfl ?_
  rcases px_ite h with ⟨hc15, h⟩ | ⟨hc15, h⟩
  · refine pw_if_lt 108 (px_at td_Mo_laysHeat 17 rfl) (by decide) (fun _ => ?_) (fun hn => absurd hc15 hn)
    refine pw_L [] [] rfl ?_
    exact hX0 σ (Option.some.inj h).symm
  · refine pw_if_lt 108 (px_at td_Mo_laysHeat 17 rfl) (by decide) (fun hn => absurd hn hc15) (fun _ => ?_)
    refine pw_ldcw (v := 268435456) (px_at td_Mo_laysHeat 18 rfl) lc_Mo_315 ?_
    refine pw_istore_n (L' := [(3, .inl 268435456), (0, .inr (some (0, 0, 0))), (2, .inl v2)]) (px_at td_Mo_laysHeat 19 rfl) rfl (by decide) rfl ?_
    refine pw_iconst (v := 0) (px_at td_Mo_laysHeat 20 rfl) (by decide) ?_
    refine pw_istore (L' := [(4, .inl 0), (3, .inl 268435456), (0, .inr (some (0, 0, 0))), (2, .inl v2)]) (px_at td_Mo_laysHeat 21 rfl) (by decide) rfl ?_
    obtain ⟨e12, he12, h⟩ := px_b1_e h
    refine pw_L [(0, .inr (some (0, 0, 0))), (2, .inl v2), (3, .inl 268435456), (4, .inl 0)] [2, 3, 1, 0] rfl ?_
    refine Mo_laysHeat_L31_l he12 ?_
    refine pw_aload_n 0 (px_at td_Mo_laysHeat 55 rfl) rfl rfl ?_
    refine pw_getf (v := .inr (some (1, 39, 0))) (px_at td_Mo_laysHeat 56 rfl) lf_Mo_87 rfl rfl rfl ?_
    refine pw_iload_n 1 (px_at td_Mo_laysHeat 57 rfl) rfl rfl ?_
    refine pw_iload_n 2 (px_at td_Mo_laysHeat 58 rfl) rfl rfl ?_
    obtain ⟨hi13, h⟩ := px_gd_e h
    obtain ⟨σ14, hσ14, h⟩ := px_l_e h
    refine pw_ias (px_at td_Mo_laysHeat 59 rfl) rfl hi13 rfl hσ14 ?_
    refine pw_iinc (q := 1) (v := (v2 + (-1))) (L' := [(2, .inl (v2 + (-1))), (0, .inr (some (0, 0, 0))), (3, .inl e12)]) (px_at td_Mo_laysHeat 60 rfl) rfl rfl (by decide) rfl ?_
    refine pw_goto 20 (px_at td_Mo_laysHeat 61 rfl) (by decide) ?_
    refine pw_L [(0, .inr (some (0, 0, 0))), (2, .inl (v2 + (-1)))] [1, 0] rfl ?_
    exact hC ((v2 + (-1)), σ14) (Option.some.inj h).symm
def Mo_laysHeat_L20  : (Int32 × pxS) → Option ((Int32 × pxS) ⊕ (pxS)) := fun s => Mo_laysHeat_n20 s.2 s.1
set_option maxRecDepth 100000 in
theorem Mo_laysHeat_L20_l {l : Launch} {ids : List pxI} {Rt : Option pxV → List pxI → pxG → pxS → Prop}  {n : Nat} {s : Int32 × pxS} {e : pxS} (h : px_it (Mo_laysHeat_L20 ) n s = some e) (hX0 : pw l (px_R 3) y_Mo_laysHeat c_Mo_laysHeat 6 none 108 [] [] ids mG e 0 0 Rt) : pw l (px_R 3) y_Mo_laysHeat c_Mo_laysHeat 6 none 20 [(0, .inr (some (0, 0, 0))), (2, .inl s.1)] [] ids mG s.2 0 0 Rt := by
  refine px_it_rule (f := Mo_laysHeat_L20 ) (C := fun s => pw l (px_R 3) y_Mo_laysHeat c_Mo_laysHeat 6 none 20 [(0, .inr (some (0, 0, 0))), (2, .inl s.1)] [] ids mG s.2 0 0 Rt) (X := fun e => (pw l (px_R 3) y_Mo_laysHeat c_Mo_laysHeat 6 none 108 [] [] ids mG e 0 0 Rt)) ?_ ?_ n s e h hX0
  · intro s s1 hf hC
    exact Mo_laysHeat_n20_l hf (fun s2 hs => by cases hs; exact hC) (fun e he => by cases he)
  · intro s e hf hX
    exact Mo_laysHeat_n20_l hf (fun s2 hs => by cases hs) (fun e1 he => by cases he; exact hX)
def F_Mo_laysHeat (σ : pxS)  : Option (pxS) :=
  px_b1 (F_Mo_rails σ ) fun r1 =>
  px_gd ((1 <<< (r1 &&& 31)) - 1) 4096 (px_l (px_up σ (1, 39, 0) ((1 <<< (r1 &&& 31)) - 1).toNatClampNeg 0) fun σ3 =>
  px_b1 (px_it (Mo_laysHeat_L20 ) px_N ((((1 <<< (r1 &&& 31)) - 1) - 1), σ3)) fun e16 =>
  some e16)
set_option maxRecDepth 100000 in
theorem e_Mo_laysHeat {l : Launch} {ids : List pxI} {Rt : Option pxV → List pxI → pxG → pxS → Prop} {σ : pxS}  {res : pxS} (h : F_Mo_laysHeat σ  = some res) (hR : Rt none ids mG res) : pw l (px_R 3) y_Mo_laysHeat c_Mo_laysHeat 6 none 0 [(0, .inr (some (0, 0, 0)))] [] ids mG σ 0 0 Rt := by
  unfold F_Mo_laysHeat at h
  refine pw_iconst (v := 1) (px_at td_Mo_laysHeat 0 rfl) (by decide) ?_
  refine pw_aload_n 0 (px_at td_Mo_laysHeat 1 rfl) rfl rfl ?_
  obtain ⟨r1, hk1, h⟩ := px_b1_e h
  refine pw_cV1 (0, 0, 0) [] [.inl 1] (px_at td_Mo_laysHeat 2 rfl) lV_Mo_223 rfl rfl rfl (Nat.le_of_ble_eq_true rfl) (by decide) (k_Mo_rails hk1) ?_
  refine pw_ishl (px_at td_Mo_laysHeat 3 rfl) ?_
  refine pw_iconst (v := 1) (px_at td_Mo_laysHeat 4 rfl) (by decide) ?_
  refine pw_isub (px_at td_Mo_laysHeat 5 rfl) ?_
  refine pw_istore_n (L' := [(1, .inl ((1 <<< (r1 &&& 31)) - 1)), (0, .inr (some (0, 0, 0)))]) (px_at td_Mo_laysHeat 6 rfl) rfl (by decide) rfl ?_
  refine pw_aload_n 1 (px_at td_Mo_laysHeat 7 rfl) rfl rfl ?_
  refine pw_getf (v := .inr (some (1, 39, 0))) (px_at td_Mo_laysHeat 8 rfl) lf_Mo_87 rfl rfl rfl ?_
  refine pw_iload_n 0 (px_at td_Mo_laysHeat 9 rfl) rfl rfl ?_
  refine pw_iconst (v := 0) (px_at td_Mo_laysHeat 10 rfl) (by decide) ?_
  obtain ⟨hi2, h⟩ := px_gd_e h
  obtain ⟨σ3, hσ3, h⟩ := px_l_e h
  refine pw_ias (px_at td_Mo_laysHeat 11 rfl) rfl hi2 rfl hσ3 ?_
  refine pw_iload_n 0 (px_at td_Mo_laysHeat 12 rfl) rfl rfl ?_
  refine pw_iconst (v := 1) (px_at td_Mo_laysHeat 13 rfl) (by decide) ?_
  refine pw_isub (px_at td_Mo_laysHeat 14 rfl) ?_
  refine pw_istore_n (L' := [(2, .inl (((1 <<< (r1 &&& 31)) - 1) - 1)), (1, .inl ((1 <<< (r1 &&& 31)) - 1)), (0, .inr (some (0, 0, 0)))]) (px_at td_Mo_laysHeat 15 rfl) rfl (by decide) rfl ?_
  obtain ⟨e16, he16, h⟩ := px_b1_e h
  refine pw_L [(0, .inr (some (0, 0, 0))), (2, .inl (((1 <<< (r1 &&& 31)) - 1) - 1))] [2, 0] rfl ?_
  refine Mo_laysHeat_L20_l he16 ?_
  obtain rfl := Option.some.inj h
  exact pw_vret (px_at td_Mo_laysHeat 62 rfl) rfl (Nat.le_refl 0) (Nat.le_refl 0) hR
theorem k_Mo_laysHeat {l : Launch} {ids : List pxI} {σ : pxS}  {res : pxS} (h : F_Mo_laysHeat σ  = some res) : pm l y_Mo_laysHeat c_Mo_laysHeat 6 none (px_R 3) [.inr (some (0, 0, 0))] ids mG σ (px_r none ids mG res) :=
  pm_ofF (by decide +kernel) (Nat.le_of_ble_eq_true rfl) (e_Mo_laysHeat h ⟨rfl, rfl, rfl, rfl⟩)
/-! Mo_heat -/
def F_Mo_heat (σ : pxS)  : Option (Int32 × pxS) :=
  px_l (px_up σ (0, 0, 0) 0 0) fun σ1 =>
  px_b1 (F_Mo_laysHeat σ1 ) fun σ2 =>
  (if (σ2 (1, 39, 0) 0) = 268435456 then some ((-2), σ2) else some ((σ2 (1, 39, 0) 0), σ2))
set_option maxRecDepth 100000 in
theorem e_Mo_heat {l : Launch} {ids : List pxI} {Rt : Option pxV → List pxI → pxG → pxS → Prop} {σ : pxS}  {res : Int32 × pxS} (h : F_Mo_heat σ  = some res) (hR : Rt (some (.inl res.1)) ids mG res.2) : pw l (px_R 4) y_Mo_heat c_Mo_heat 1 (some .int) 0 [(0, .inr (some (0, 0, 0)))] [] ids mG σ 0 0 Rt := by
  unfold F_Mo_heat at h
  refine pw_aload_n 0 (px_at td_Mo_heat 0 rfl) rfl rfl ?_
  refine pw_iconst (v := 0) (px_at td_Mo_heat 1 rfl) (by decide) ?_
  obtain ⟨σ1, hσ1, h⟩ := px_l_e h
  refine pw_puti (px_at td_Mo_heat 2 rfl) lw_Mo_99 rfl rfl (pw_s hσ1 ?_)
  refine pw_aload_n 0 (px_at td_Mo_heat 3 rfl) rfl rfl ?_
  obtain ⟨σ2, hk2, h⟩ := px_b1_e h
  refine pw_cV0 (0, 0, 0) [] [] (px_at td_Mo_heat 4 rfl) lV_Mo_326 rfl rfl rfl (Nat.le_of_ble_eq_true rfl) (by decide) (k_Mo_laysHeat hk2) ?_
  refine pw_aload_n 0 (px_at td_Mo_heat 5 rfl) rfl rfl ?_
  refine pw_getf (v := .inr (some (1, 39, 0))) (px_at td_Mo_heat 6 rfl) lf_Mo_87 rfl rfl rfl ?_
  refine pw_iconst (v := 0) (px_at td_Mo_heat 7 rfl) (by decide) ?_
  refine pw_ial (px_at td_Mo_heat 8 rfl) rfl (px_inL (by decide) px_z0 (by decide)) px_z0 ?_
  refine pw_ldcw (v := 268435456) (px_at td_Mo_heat 9 rfl) lc_Mo_315 ?_
  rcases px_ite h with ⟨hc3, h⟩ | ⟨hc3, h⟩
  · refine pw_icmp_ne 26 (px_at td_Mo_heat 10 rfl) (by decide) (fun hn => absurd hc3 hn) (fun _ => ?_)
    refine pw_bipush (v := (-2)) (px_at td_Mo_heat 11 rfl) (by decide) ?_
    refine pw_goto 32 (px_at td_Mo_heat 12 rfl) (by decide) ?_
    obtain rfl := Option.some.inj h
    exact pw_iret (px_at td_Mo_heat 17 rfl) rfl (Nat.le_refl 0) (Nat.le_refl 0) hR
  · refine pw_icmp_ne 26 (px_at td_Mo_heat 10 rfl) (by decide) (fun _ => ?_) (fun hn => absurd hn hc3)
    refine pw_aload_n 0 (px_at td_Mo_heat 13 rfl) rfl rfl ?_
    refine pw_getf (v := .inr (some (1, 39, 0))) (px_at td_Mo_heat 14 rfl) lf_Mo_87 rfl rfl rfl ?_
    refine pw_iconst (v := 0) (px_at td_Mo_heat 15 rfl) (by decide) ?_
    refine pw_ial (px_at td_Mo_heat 16 rfl) rfl (px_inL (by decide) px_z0 (by decide)) px_z0 ?_
    obtain rfl := Option.some.inj h
    exact pw_iret (px_at td_Mo_heat 17 rfl) rfl (Nat.le_refl 0) (Nat.le_refl 0) hR
theorem k_Mo_heat {l : Launch} {ids : List pxI} {σ : pxS}  {res : Int32 × pxS} (h : F_Mo_heat σ  = some res) : pm l y_Mo_heat c_Mo_heat 1 (some .int) (px_R 4) [.inr (some (0, 0, 0))] ids mG σ (px_r (some (.inl res.1)) ids mG res.2) :=
  pm_ofF (by decide +kernel) (Nat.le_of_ble_eq_true rfl) (e_Mo_heat h ⟨rfl, rfl, rfl, rfl⟩)
/-! Mo_order -/
def Mo_order_n17 (σ : pxS)  : Option (Int32 × pxS) :=
  some ((-1), σ)
set_option maxRecDepth 100000 in
theorem Mo_order_n17_l {l : Launch} {ids : List pxI} {Rt : Option pxV → List pxI → pxG → pxS → Prop} {σ : pxS}  {res : Int32 × pxS} (h : Mo_order_n17 σ  = some res) (hR : Rt (some (.inl res.1)) ids mG res.2) : pw l (px_R 4) y_Mo_order c_Mo_order 5 (some .int) 17 [] [] ids mG σ 0 0 Rt := by
  unfold Mo_order_n17 at h
  refine pw_iconst (v := (-1)) (px_at td_Mo_order 9 rfl) (by decide) ?_
  obtain rfl := Option.some.inj h
  exact pw_iret (px_at td_Mo_order 10 rfl) rfl (Nat.le_refl 0) (Nat.le_refl 0) hR
def Mo_order_n90 (σ : pxS) (v1 : Int32) (v2 : Int32) (v3 : Int32) (v4 : Int32) : Option ((Int32) ⊕ (Int32)) :=
  some (.inl (v3 + 1))
set_option maxRecDepth 100000 in
theorem Mo_order_n90_l {l : Launch} {ids : List pxI} {Rt : Option pxV → List pxI → pxG → pxS → Prop} {σ : pxS} {v1 : Int32} {v2 : Int32} {v3 : Int32} {v4 : Int32} {o : (Int32) ⊕ (Int32)} (h : Mo_order_n90 σ v1 v2 v3 v4 = some o) (hC : ∀ s, o = .inl s → pw l (px_R 4) y_Mo_order c_Mo_order 5 (some .int) 53 [(0, .inr (some (0, 0, 0))), (1, .inl v1), (2, .inl v2), (3, .inl s), (4, .inl v4)] [] ids mG σ 0 0 Rt) (hX0 : ∀ e, o = .inr e → pw l (px_R 4) y_Mo_order c_Mo_order 5 (some .int) 96 [(0, .inr (some (0, 0, 0))), (1, .inl v1), (2, .inl v2), (3, .inl e), (4, .inl v4)] [] ids mG σ 0 0 Rt) : pw l (px_R 4) y_Mo_order c_Mo_order 5 (some .int) 90 [(0, .inr (some (0, 0, 0))), (1, .inl v1), (2, .inl v2), (3, .inl v3), (4, .inl v4)] [] ids mG σ 0 0 Rt := by
  unfold Mo_order_n90 at h
  refine pw_iinc (q := 3) (v := (v3 + 1)) (L' := [(3, .inl (v3 + 1)), (0, .inr (some (0, 0, 0))), (1, .inl v1), (2, .inl v2), (4, .inl v4)]) (px_at td_Mo_order 55 rfl) rfl rfl (by decide) rfl ?_
  refine pw_goto 53 (px_at td_Mo_order 56 rfl) (by decide) ?_
  refine pw_L [(0, .inr (some (0, 0, 0))), (1, .inl v1), (2, .inl v2), (3, .inl (v3 + 1)), (4, .inl v4)] [1, 2, 3, 0, 4] rfl ?_
  exact hC (v3 + 1) (Option.some.inj h).symm
def Mo_order_n53 (σ : pxS) (v1 : Int32) (v2 : Int32) (v3 : Int32) (v4 : Int32) : Option ((Int32) ⊕ (Int32)) :=
  px_b1 (F_Mo_mayCome σ v2 v3) fun r4 =>
  (if r4 = 0 then Mo_order_n90 σ v1 v2 v3 v4 else px_b1 (F_Mo_heatAt σ v2 v3) fun r5 =>
  px_gd (v2 ||| (1 <<< (v3 &&& 31))) 4096 (px_b1 (F_Mo_greater σ r5 (σ (1, 39, 0) (v2 ||| (1 <<< (v3 &&& 31))).toNatClampNeg)) fun r7 =>
  (if r7 ≤ (σ (1, 39, 0) 0) then some (.inr v3) else Mo_order_n90 σ v1 v2 v3 v4)))
set_option maxRecDepth 100000 in
theorem Mo_order_n53_l {l : Launch} {ids : List pxI} {Rt : Option pxV → List pxI → pxG → pxS → Prop} {σ : pxS} {v1 : Int32} {v2 : Int32} {v3 : Int32} {v4 : Int32} {o : (Int32) ⊕ (Int32)} (h : Mo_order_n53 σ v1 v2 v3 v4 = some o) (hC : ∀ s, o = .inl s → pw l (px_R 4) y_Mo_order c_Mo_order 5 (some .int) 53 [(0, .inr (some (0, 0, 0))), (1, .inl v1), (2, .inl v2), (3, .inl s), (4, .inl v4)] [] ids mG σ 0 0 Rt) (hX0 : ∀ e, o = .inr e → pw l (px_R 4) y_Mo_order c_Mo_order 5 (some .int) 96 [(0, .inr (some (0, 0, 0))), (1, .inl v1), (2, .inl v2), (3, .inl e), (4, .inl v4)] [] ids mG σ 0 0 Rt) : pw l (px_R 4) y_Mo_order c_Mo_order 5 (some .int) 53 [(0, .inr (some (0, 0, 0))), (1, .inl v1), (2, .inl v2), (3, .inl v3), (4, .inl v4)] [] ids mG σ 0 0 Rt := by
  unfold Mo_order_n53 at h
  refine pw_aload_n 0 (px_at td_Mo_order 32 rfl) rfl rfl ?_
  refine pw_iload_n 2 (px_at td_Mo_order 33 rfl) rfl rfl ?_
  refine pw_iload_n 3 (px_at td_Mo_order 34 rfl) rfl rfl ?_
  obtain ⟨r4, hk4, h⟩ := px_b1_e h
  refine pw_cV1 (0, 0, 0) [.inl v2, .inl v3] [] (px_at td_Mo_order 35 rfl) lV_Mo_316 rfl rfl rfl (Nat.le_of_ble_eq_true rfl) (by decide) (k_Mo_mayCome hk4) ?_
  rcases px_ite h with ⟨hc9, h⟩ | ⟨hc9, h⟩
  · refine pw_if_eq 90 (px_at td_Mo_order 36 rfl) (by decide) (fun _ => ?_) (fun hn => absurd hc9 hn)
    exact Mo_order_n90_l h hC hX0
  · refine pw_if_eq 90 (px_at td_Mo_order 36 rfl) (by decide) (fun hn => absurd hn hc9) (fun _ => ?_)
    refine pw_aload_n 0 (px_at td_Mo_order 37 rfl) rfl rfl ?_
    refine pw_iload_n 2 (px_at td_Mo_order 38 rfl) rfl rfl ?_
    refine pw_iload_n 3 (px_at td_Mo_order 39 rfl) rfl rfl ?_
    obtain ⟨r5, hk5, h⟩ := px_b1_e h
    refine pw_cV1 (0, 0, 0) [.inl v2, .inl v3] [] (px_at td_Mo_order 40 rfl) lV_Mo_320 rfl rfl rfl (Nat.le_of_ble_eq_true rfl) (by decide) (k_Mo_heatAt hk5) ?_
    refine pw_aload_n 0 (px_at td_Mo_order 41 rfl) rfl rfl ?_
    refine pw_getf (v := .inr (some (1, 39, 0))) (px_at td_Mo_order 42 rfl) lf_Mo_87 rfl rfl rfl ?_
    refine pw_iload_n 2 (px_at td_Mo_order 43 rfl) rfl rfl ?_
    refine pw_iconst (v := 1) (px_at td_Mo_order 44 rfl) (by decide) ?_
    refine pw_iload_n 3 (px_at td_Mo_order 45 rfl) rfl rfl ?_
    refine pw_ishl (px_at td_Mo_order 46 rfl) ?_
    refine pw_ior (px_at td_Mo_order 47 rfl) ?_
    obtain ⟨hi6, h⟩ := px_gd_e h
    refine pw_ial (px_at td_Mo_order 48 rfl) rfl hi6 rfl ?_
    obtain ⟨r7, hk7, h⟩ := px_b1_e h
    refine pw_cS1 [.inl r5, .inl (σ (1, 39, 0) (v2 ||| (1 <<< (v3 &&& 31))).toNatClampNeg)] [] (px_at td_Mo_order 49 rfl) lS_Mo_323 rfl rfl (Nat.le_of_ble_eq_true rfl) (by decide) (k_Mo_greater hk7) ?_
    refine pw_aload_n 0 (px_at td_Mo_order 50 rfl) rfl rfl ?_
    refine pw_getf (v := .inr (some (1, 39, 0))) (px_at td_Mo_order 51 rfl) lf_Mo_87 rfl rfl rfl ?_
    refine pw_iconst (v := 0) (px_at td_Mo_order 52 rfl) (by decide) ?_
    refine pw_ial (px_at td_Mo_order 53 rfl) rfl (px_inL (by decide) px_z0 (by decide)) px_z0 ?_
    rcases px_ite h with ⟨hc8, h⟩ | ⟨hc8, h⟩
    · refine pw_icmp_le 96 (px_at td_Mo_order 54 rfl) (by decide) (fun _ => ?_) (fun hn => absurd hc8 hn)
      exact hX0 v3 (Option.some.inj h).symm
    · refine pw_icmp_le 96 (px_at td_Mo_order 54 rfl) (by decide) (fun hn => absurd hn hc8) (fun _ => ?_)
      exact Mo_order_n90_l h hC hX0
def Mo_order_L53 (σ : pxS) (v1 : Int32) (v2 : Int32) (v4 : Int32) : (Int32) → Option ((Int32) ⊕ (Int32)) := fun s => Mo_order_n53 σ v1 v2 s v4
set_option maxRecDepth 100000 in
theorem Mo_order_L53_l {l : Launch} {ids : List pxI} {Rt : Option pxV → List pxI → pxG → pxS → Prop} {σ : pxS} {v1 : Int32} {v2 : Int32} {v4 : Int32} {n : Nat} {s : Int32} {e : Int32} (h : px_it (Mo_order_L53 σ v1 v2 v4) n s = some e) (hX0 : pw l (px_R 4) y_Mo_order c_Mo_order 5 (some .int) 96 [(0, .inr (some (0, 0, 0))), (1, .inl v1), (2, .inl v2), (3, .inl e), (4, .inl v4)] [] ids mG σ 0 0 Rt) : pw l (px_R 4) y_Mo_order c_Mo_order 5 (some .int) 53 [(0, .inr (some (0, 0, 0))), (1, .inl v1), (2, .inl v2), (3, .inl s), (4, .inl v4)] [] ids mG σ 0 0 Rt := by
  refine px_it_rule (f := Mo_order_L53 σ v1 v2 v4) (C := fun s => pw l (px_R 4) y_Mo_order c_Mo_order 5 (some .int) 53 [(0, .inr (some (0, 0, 0))), (1, .inl v1), (2, .inl v2), (3, .inl s), (4, .inl v4)] [] ids mG σ 0 0 Rt) (X := fun e => (pw l (px_R 4) y_Mo_order c_Mo_order 5 (some .int) 96 [(0, .inr (some (0, 0, 0))), (1, .inl v1), (2, .inl v2), (3, .inl e), (4, .inl v4)] [] ids mG σ 0 0 Rt)) ?_ ?_ n s e h hX0
  · intro s s1 hf hC
    exact Mo_order_n53_l hf (fun s2 hs => by cases hs; exact hC) (fun e he => by cases he)
  · intro s e hf hX
    exact Mo_order_n53_l hf (fun s2 hs => by cases hs) (fun e1 he => by cases he; exact hX)
def Mo_order_n45 (σ : pxS) (v1 : Int32) (v2 : Int32) (v3 : Int32) (v4 : Int32) : Option ((Int32 × Int32 × Int32) ⊕ (Int32)) :=
  (if v1 < v4 then some (.inr v3) else px_b1 (px_it (Mo_order_L53 σ v1 v2 v4) px_N 0) fun e10 =>
  some (.inl ((v2 ||| (1 <<< (e10 &&& 31))), e10, (v4 + 1))))
set_option maxRecDepth 100000 in
theorem Mo_order_n45_l {l : Launch} {ids : List pxI} {Rt : Option pxV → List pxI → pxG → pxS → Prop} {σ : pxS} {v1 : Int32} {v2 : Int32} {v3 : Int32} {v4 : Int32} {o : (Int32 × Int32 × Int32) ⊕ (Int32)} (h : Mo_order_n45 σ v1 v2 v3 v4 = some o) (hC : ∀ s, o = .inl s → pw l (px_R 4) y_Mo_order c_Mo_order 5 (some .int) 45 [(0, .inr (some (0, 0, 0))), (1, .inl v1), (2, .inl s.1), (3, .inl s.2.1), (4, .inl s.2.2)] [] ids mG σ 0 0 Rt) (hX0 : ∀ e, o = .inr e → pw l (px_R 4) y_Mo_order c_Mo_order 5 (some .int) 108 [(3, .inl e)] [] ids mG σ 0 0 Rt) : pw l (px_R 4) y_Mo_order c_Mo_order 5 (some .int) 45 [(0, .inr (some (0, 0, 0))), (1, .inl v1), (2, .inl v2), (3, .inl v3), (4, .inl v4)] [] ids mG σ 0 0 Rt := by
  unfold Mo_order_n45 at h
  refine pw_iload 4 (px_at td_Mo_order 27 rfl) rfl ?_
  refine pw_iload_n 1 (px_at td_Mo_order 28 rfl) rfl rfl ?_
  rcases px_ite h with ⟨hc11, h⟩ | ⟨hc11, h⟩
  · refine pw_icmp_gt 108 (px_at td_Mo_order 29 rfl) (by decide) (fun _ => ?_) (fun hn => absurd hc11 hn)
    refine pw_L [(3, .inl v3)] [3] rfl ?_
    exact hX0 v3 (Option.some.inj h).symm
  · refine pw_icmp_gt 108 (px_at td_Mo_order 29 rfl) (by decide) (fun hn => absurd hn hc11) (fun _ => ?_)
    refine pw_iconst (v := 0) (px_at td_Mo_order 30 rfl) (by decide) ?_
    refine pw_istore_n (L' := [(3, .inl 0), (0, .inr (some (0, 0, 0))), (1, .inl v1), (2, .inl v2), (4, .inl v4)]) (px_at td_Mo_order 31 rfl) rfl (by decide) rfl ?_
    obtain ⟨e10, he10, h⟩ := px_b1_e h
    refine pw_L [(0, .inr (some (0, 0, 0))), (1, .inl v1), (2, .inl v2), (3, .inl 0), (4, .inl v4)] [1, 2, 3, 0, 4] rfl ?_
    refine Mo_order_L53_l he10 ?_
    refine pw_iload_n 2 (px_at td_Mo_order 57 rfl) rfl rfl ?_
    refine pw_iconst (v := 1) (px_at td_Mo_order 58 rfl) (by decide) ?_
    refine pw_iload_n 3 (px_at td_Mo_order 59 rfl) rfl rfl ?_
    refine pw_ishl (px_at td_Mo_order 60 rfl) ?_
    refine pw_ior (px_at td_Mo_order 61 rfl) ?_
    refine pw_istore_n (L' := [(2, .inl (v2 ||| (1 <<< (e10 &&& 31)))), (0, .inr (some (0, 0, 0))), (1, .inl v1), (3, .inl e10), (4, .inl v4)]) (px_at td_Mo_order 62 rfl) rfl (by decide) rfl ?_
    refine pw_iinc (q := 4) (v := (v4 + 1)) (L' := [(4, .inl (v4 + 1)), (2, .inl (v2 ||| (1 <<< (e10 &&& 31)))), (0, .inr (some (0, 0, 0))), (1, .inl v1), (3, .inl e10)]) (px_at td_Mo_order 63 rfl) rfl rfl (by decide) rfl ?_
    refine pw_goto 45 (px_at td_Mo_order 64 rfl) (by decide) ?_
    refine pw_L [(0, .inr (some (0, 0, 0))), (1, .inl v1), (2, .inl (v2 ||| (1 <<< (e10 &&& 31)))), (3, .inl e10), (4, .inl (v4 + 1))] [2, 3, 1, 4, 0] rfl ?_
    exact hC ((v2 ||| (1 <<< (e10 &&& 31))), e10, (v4 + 1)) (Option.some.inj h).symm
def Mo_order_L45 (σ : pxS) (v1 : Int32) : (Int32 × Int32 × Int32) → Option ((Int32 × Int32 × Int32) ⊕ (Int32)) := fun s => Mo_order_n45 σ v1 s.1 s.2.1 s.2.2
set_option maxRecDepth 100000 in
theorem Mo_order_L45_l {l : Launch} {ids : List pxI} {Rt : Option pxV → List pxI → pxG → pxS → Prop} {σ : pxS} {v1 : Int32} {n : Nat} {s : Int32 × Int32 × Int32} {e : Int32} (h : px_it (Mo_order_L45 σ v1) n s = some e) (hX0 : pw l (px_R 4) y_Mo_order c_Mo_order 5 (some .int) 108 [(3, .inl e)] [] ids mG σ 0 0 Rt) : pw l (px_R 4) y_Mo_order c_Mo_order 5 (some .int) 45 [(0, .inr (some (0, 0, 0))), (1, .inl v1), (2, .inl s.1), (3, .inl s.2.1), (4, .inl s.2.2)] [] ids mG σ 0 0 Rt := by
  refine px_it_rule (f := Mo_order_L45 σ v1) (C := fun s => pw l (px_R 4) y_Mo_order c_Mo_order 5 (some .int) 45 [(0, .inr (some (0, 0, 0))), (1, .inl v1), (2, .inl s.1), (3, .inl s.2.1), (4, .inl s.2.2)] [] ids mG σ 0 0 Rt) (X := fun e => (pw l (px_R 4) y_Mo_order c_Mo_order 5 (some .int) 108 [(3, .inl e)] [] ids mG σ 0 0 Rt)) ?_ ?_ n s e h hX0
  · intro s s1 hf hC
    exact Mo_order_n45_l hf (fun s2 hs => by cases hs; exact hC) (fun e he => by cases he)
  · intro s e hf hX
    exact Mo_order_n45_l hf (fun s2 hs => by cases hs) (fun e1 he => by cases he; exact hX)
def F_Mo_order (σ : pxS) (v1 : Int32) : Option (Int32 × pxS) :=
  px_l (px_up σ (0, 0, 0) 0 0) fun σ1 =>
  (if v1 < 0 then Mo_order_n17 σ1  else px_b1 (F_Mo_rails σ1 ) fun r2 =>
  (if v1 < r2 then px_b1 (F_Mo_laysHeat σ1 ) fun σ3 =>
  (if (σ3 (1, 39, 0) 0) = 268435456 then some ((-2), σ3) else px_b1 (px_it (Mo_order_L45 σ3 v1) px_N (0, 0, 0)) fun e12 =>
  some (e12, σ3)) else Mo_order_n17 σ1 ))
set_option maxRecDepth 100000 in
theorem e_Mo_order {l : Launch} {ids : List pxI} {Rt : Option pxV → List pxI → pxG → pxS → Prop} {σ : pxS} {v1 : Int32} {res : Int32 × pxS} (h : F_Mo_order σ v1 = some res) (hR : Rt (some (.inl res.1)) ids mG res.2) : pw l (px_R 4) y_Mo_order c_Mo_order 5 (some .int) 0 [(0, .inr (some (0, 0, 0))), (1, .inl v1)] [] ids mG σ 0 0 Rt := by
  unfold F_Mo_order at h
  refine pw_aload_n 0 (px_at td_Mo_order 0 rfl) rfl rfl ?_
  refine pw_iconst (v := 0) (px_at td_Mo_order 1 rfl) (by decide) ?_
  obtain ⟨σ1, hσ1, h⟩ := px_l_e h
  refine pw_puti (px_at td_Mo_order 2 rfl) lw_Mo_99 rfl rfl (pw_s hσ1 ?_)
  refine pw_iload_n 1 (px_at td_Mo_order 3 rfl) rfl rfl ?_
  rcases px_ite h with ⟨hc15, h⟩ | ⟨hc15, h⟩
  · refine pw_if_lt 17 (px_at td_Mo_order 4 rfl) (by decide) (fun _ => ?_) (fun hn => absurd hc15 hn)
    refine pw_L [] [] rfl ?_
    exact Mo_order_n17_l h hR
  · refine pw_if_lt 17 (px_at td_Mo_order 4 rfl) (by decide) (fun hn => absurd hn hc15) (fun _ => ?_)
    refine pw_iload_n 1 (px_at td_Mo_order 5 rfl) rfl rfl ?_
    refine pw_aload_n 0 (px_at td_Mo_order 6 rfl) rfl rfl ?_
    obtain ⟨r2, hk2, h⟩ := px_b1_e h
    refine pw_cV1 (0, 0, 0) [] [.inl v1] (px_at td_Mo_order 7 rfl) lV_Mo_223 rfl rfl rfl (Nat.le_of_ble_eq_true rfl) (by decide) (k_Mo_rails hk2) ?_
    rcases px_ite h with ⟨hc14, h⟩ | ⟨hc14, h⟩
    · refine pw_icmp_lt 19 (px_at td_Mo_order 8 rfl) (by decide) (fun _ => ?_) (fun hn => absurd hc14 hn)
      refine pw_aload_n 0 (px_at td_Mo_order 11 rfl) rfl rfl ?_
      obtain ⟨σ3, hk3, h⟩ := px_b1_e h
      refine pw_cV0 (0, 0, 0) [] [] (px_at td_Mo_order 12 rfl) lV_Mo_326 rfl rfl rfl (Nat.le_of_ble_eq_true rfl) (by decide) (k_Mo_laysHeat hk3) ?_
      refine pw_aload_n 0 (px_at td_Mo_order 13 rfl) rfl rfl ?_
      refine pw_getf (v := .inr (some (1, 39, 0))) (px_at td_Mo_order 14 rfl) lf_Mo_87 rfl rfl rfl ?_
      refine pw_iconst (v := 0) (px_at td_Mo_order 15 rfl) (by decide) ?_
      refine pw_ial (px_at td_Mo_order 16 rfl) rfl (px_inL (by decide) px_z0 (by decide)) px_z0 ?_
      refine pw_ldcw (v := 268435456) (px_at td_Mo_order 17 rfl) lc_Mo_315 ?_
      rcases px_ite h with ⟨hc13, h⟩ | ⟨hc13, h⟩
      · refine pw_icmp_ne 38 (px_at td_Mo_order 18 rfl) (by decide) (fun hn => absurd hc13 hn) (fun _ => ?_)
        refine pw_bipush (v := (-2)) (px_at td_Mo_order 19 rfl) (by decide) ?_
        obtain rfl := Option.some.inj h
        exact pw_iret (px_at td_Mo_order 20 rfl) rfl (Nat.le_refl 0) (Nat.le_refl 0) hR
      · refine pw_icmp_ne 38 (px_at td_Mo_order 18 rfl) (by decide) (fun _ => ?_) (fun hn => absurd hn hc13)
        refine pw_iconst (v := 0) (px_at td_Mo_order 21 rfl) (by decide) ?_
        refine pw_istore_n (L' := [(2, .inl 0), (0, .inr (some (0, 0, 0))), (1, .inl v1)]) (px_at td_Mo_order 22 rfl) rfl (by decide) rfl ?_
        refine pw_iconst (v := 0) (px_at td_Mo_order 23 rfl) (by decide) ?_
        refine pw_istore_n (L' := [(3, .inl 0), (2, .inl 0), (0, .inr (some (0, 0, 0))), (1, .inl v1)]) (px_at td_Mo_order 24 rfl) rfl (by decide) rfl ?_
        refine pw_iconst (v := 0) (px_at td_Mo_order 25 rfl) (by decide) ?_
        refine pw_istore (L' := [(4, .inl 0), (3, .inl 0), (2, .inl 0), (0, .inr (some (0, 0, 0))), (1, .inl v1)]) (px_at td_Mo_order 26 rfl) (by decide) rfl ?_
        obtain ⟨e12, he12, h⟩ := px_b1_e h
        refine pw_L [(0, .inr (some (0, 0, 0))), (1, .inl v1), (2, .inl 0), (3, .inl 0), (4, .inl 0)] [3, 4, 2, 1, 0] rfl ?_
        refine Mo_order_L45_l he12 ?_
        refine pw_iload_n 0 (px_at td_Mo_order 65 rfl) rfl rfl ?_
        obtain rfl := Option.some.inj h
        exact pw_iret (px_at td_Mo_order 66 rfl) rfl (Nat.le_refl 0) (Nat.le_refl 0) hR
    · refine pw_icmp_lt 19 (px_at td_Mo_order 8 rfl) (by decide) (fun hn => absurd hn hc14) (fun _ => ?_)
      refine pw_L [] [] rfl ?_
      exact Mo_order_n17_l h hR
theorem k_Mo_order {l : Launch} {ids : List pxI} {σ : pxS} {v1 : Int32} {res : Int32 × pxS} (h : F_Mo_order σ v1 = some res) : pm l y_Mo_order c_Mo_order 5 (some .int) (px_R 4) [.inr (some (0, 0, 0)), .inl v1] ids mG σ (px_r (some (.inl res.1)) ids mG res.2) :=
  pm_ofF (by decide +kernel) (Nat.le_of_ble_eq_true rfl) (e_Mo_order h ⟨rfl, rfl, rfl, rfl⟩)
/-! Mo_isFar -/
def Mo_isFar_n15 (σ : pxS)  : Option (Int32) :=
  some (0)
set_option maxRecDepth 100000 in
theorem Mo_isFar_n15_l {l : Launch} {ids : List pxI} {Rt : Option pxV → List pxI → pxG → pxS → Prop} {σ : pxS}  {res : Int32} (h : Mo_isFar_n15 σ  = some res) (hR : Rt (some (.inl res)) ids mG σ) : pw l (px_R 1) y_Mo_isFar c_Mo_isFar 1 (some .boolean) 15 [] [] ids mG σ 0 0 Rt := by
  unfold Mo_isFar_n15 at h
  refine pw_iconst (v := 0) (px_at td_Mo_isFar 7 rfl) (by decide) ?_
  obtain rfl := Option.some.inj h
  exact pw_zret (px_at td_Mo_isFar 8 rfl) rfl (by decide) (Nat.le_refl 0) (Nat.le_refl 0) hR
def F_Mo_isFar (σ : pxS) (v0 : Int32) : Option (Int32) :=
  (if v0 < 0 then Mo_isFar_n15 σ  else (if 300 < v0 then Mo_isFar_n15 σ  else some (1)))
set_option maxRecDepth 100000 in
theorem e_Mo_isFar {l : Launch} {ids : List pxI} {Rt : Option pxV → List pxI → pxG → pxS → Prop} {σ : pxS} {v0 : Int32} {res : Int32} (h : F_Mo_isFar σ v0 = some res) (hR : Rt (some (.inl res)) ids mG σ) : pw l (px_R 1) y_Mo_isFar c_Mo_isFar 1 (some .boolean) 0 [(0, .inl v0)] [] ids mG σ 0 0 Rt := by
  unfold F_Mo_isFar at h
  refine pw_iload_n 0 (px_at td_Mo_isFar 0 rfl) rfl rfl ?_
  rcases px_ite h with ⟨hc2, h⟩ | ⟨hc2, h⟩
  · refine pw_if_lt 15 (px_at td_Mo_isFar 1 rfl) (by decide) (fun _ => ?_) (fun hn => absurd hc2 hn)
    refine pw_L [] [] rfl ?_
    exact Mo_isFar_n15_l h hR
  · refine pw_if_lt 15 (px_at td_Mo_isFar 1 rfl) (by decide) (fun hn => absurd hn hc2) (fun _ => ?_)
    refine pw_iload_n 0 (px_at td_Mo_isFar 2 rfl) rfl rfl ?_
    refine pw_sipush (v := 300) (px_at td_Mo_isFar 3 rfl) (by decide) ?_
    rcases px_ite h with ⟨hc1, h⟩ | ⟨hc1, h⟩
    · refine pw_icmp_gt 15 (px_at td_Mo_isFar 4 rfl) (by decide) (fun _ => ?_) (fun hn => absurd hc1 hn)
      refine pw_L [] [] rfl ?_
      exact Mo_isFar_n15_l h hR
    · refine pw_icmp_gt 15 (px_at td_Mo_isFar 4 rfl) (by decide) (fun hn => absurd hn hc1) (fun _ => ?_)
      refine pw_iconst (v := 1) (px_at td_Mo_isFar 5 rfl) (by decide) ?_
      refine pw_goto 16 (px_at td_Mo_isFar 6 rfl) (by decide) ?_
      obtain rfl := Option.some.inj h
      exact pw_zret (px_at td_Mo_isFar 8 rfl) rfl (by decide) (Nat.le_refl 0) (Nat.le_refl 0) hR
theorem k_Mo_isFar {l : Launch} {ids : List pxI} {σ : pxS} {v0 : Int32} {res : Int32} (h : F_Mo_isFar σ v0 = some res) : pm l y_Mo_isFar c_Mo_isFar 1 (some .boolean) (px_R 1) [.inl v0] ids mG σ (px_r (some (.inl res)) ids mG σ) :=
  pm_ofF (by decide +kernel) (Nat.le_of_ble_eq_true rfl) (e_Mo_isFar h ⟨rfl, rfl, rfl, rfl⟩)
/-! Mo_copies_28_29 -/
def Mo_copies_28_29_n3 (σ : pxS) (v1 : Int32) (v3 : Int32) (v4 : Int32) : Option ((Int32 × pxS) ⊕ (pxS)) :=
  (if 308 ≤ v4 then some (.inr σ) else px_gd (v1 + v4) 308 (px_gd (v3 + v4) 308 (px_l (px_up σ (1, 29, 0) (v3 + v4).toNatClampNeg (σ (1, 28, 0) (v1 + v4).toNatClampNeg)) fun σ3 =>
  some (.inl ((v4 + 1), σ3)))))
set_option maxRecDepth 100000 in
theorem Mo_copies_28_29_n3_l {l : Launch} {ids : List pxI} {Rt : Option pxV → List pxI → pxG → pxS → Prop} {σ : pxS} {v1 : Int32} {v3 : Int32} {v4 : Int32} {o : (Int32 × pxS) ⊕ (pxS)} (h : Mo_copies_28_29_n3 σ v1 v3 v4 = some o) (hC : ∀ s, o = .inl s → pw l (px_R 1) y_Mo_copies c_Mo_copies 5 none 3 [(0, .inr (some (1, 28, 0))), (1, .inl v1), (2, .inr (some (1, 29, 0))), (3, .inl v3), (4, .inl s.1)] [] ids mG s.2 0 0 Rt) (hX0 : ∀ e, o = .inr e → pw l (px_R 1) y_Mo_copies c_Mo_copies 5 none 29 [] [] ids mG e 0 0 Rt) : pw l (px_R 1) y_Mo_copies c_Mo_copies 5 none 3 [(0, .inr (some (1, 28, 0))), (1, .inl v1), (2, .inr (some (1, 29, 0))), (3, .inl v3), (4, .inl v4)] [] ids mG σ 0 0 Rt := by
  unfold Mo_copies_28_29_n3 at h
  refine pw_iload 4 (px_at td_Mo_copies 2 rfl) rfl ?_
  refine pw_sipush (v := 308) (px_at td_Mo_copies 3 rfl) (by decide) ?_
  rcases px_ite h with ⟨hc4, h⟩ | ⟨hc4, h⟩
  · refine pw_icmp_ge 29 (px_at td_Mo_copies 4 rfl) (by decide) (fun _ => ?_) (fun hn => absurd hc4 hn)
    refine pw_L [] [] rfl ?_
    exact hX0 σ (Option.some.inj h).symm
  · refine pw_icmp_ge 29 (px_at td_Mo_copies 4 rfl) (by decide) (fun hn => absurd hn hc4) (fun _ => ?_)
    refine pw_aload_n 2 (px_at td_Mo_copies 5 rfl) rfl rfl ?_
    refine pw_iload_n 3 (px_at td_Mo_copies 6 rfl) rfl rfl ?_
    refine pw_iload 4 (px_at td_Mo_copies 7 rfl) rfl ?_
    refine pw_iadd (px_at td_Mo_copies 8 rfl) ?_
    refine pw_aload_n 0 (px_at td_Mo_copies 9 rfl) rfl rfl ?_
    refine pw_iload_n 1 (px_at td_Mo_copies 10 rfl) rfl rfl ?_
    refine pw_iload 4 (px_at td_Mo_copies 11 rfl) rfl ?_
    refine pw_iadd (px_at td_Mo_copies 12 rfl) ?_
    obtain ⟨hi1, h⟩ := px_gd_e h
    refine pw_ial (px_at td_Mo_copies 13 rfl) rfl hi1 rfl ?_
    obtain ⟨hi2, h⟩ := px_gd_e h
    obtain ⟨σ3, hσ3, h⟩ := px_l_e h
    refine pw_ias (px_at td_Mo_copies 14 rfl) rfl hi2 rfl hσ3 ?_
    refine pw_iinc (q := 4) (v := (v4 + 1)) (L' := [(4, .inl (v4 + 1)), (0, .inr (some (1, 28, 0))), (1, .inl v1), (2, .inr (some (1, 29, 0))), (3, .inl v3)]) (px_at td_Mo_copies 15 rfl) rfl rfl (by decide) rfl ?_
    refine pw_goto 3 (px_at td_Mo_copies 16 rfl) (by decide) ?_
    refine pw_L [(0, .inr (some (1, 28, 0))), (1, .inl v1), (2, .inr (some (1, 29, 0))), (3, .inl v3), (4, .inl (v4 + 1))] [1, 2, 3, 4, 0] rfl ?_
    exact hC ((v4 + 1), σ3) (Option.some.inj h).symm
def Mo_copies_28_29_L3 (v1 : Int32) (v3 : Int32) : (Int32 × pxS) → Option ((Int32 × pxS) ⊕ (pxS)) := fun s => Mo_copies_28_29_n3 s.2 v1 v3 s.1
set_option maxRecDepth 100000 in
theorem Mo_copies_28_29_L3_l {l : Launch} {ids : List pxI} {Rt : Option pxV → List pxI → pxG → pxS → Prop} {v1 : Int32} {v3 : Int32} {n : Nat} {s : Int32 × pxS} {e : pxS} (h : px_it (Mo_copies_28_29_L3 v1 v3) n s = some e) (hX0 : pw l (px_R 1) y_Mo_copies c_Mo_copies 5 none 29 [] [] ids mG e 0 0 Rt) : pw l (px_R 1) y_Mo_copies c_Mo_copies 5 none 3 [(0, .inr (some (1, 28, 0))), (1, .inl v1), (2, .inr (some (1, 29, 0))), (3, .inl v3), (4, .inl s.1)] [] ids mG s.2 0 0 Rt := by
  refine px_it_rule (f := Mo_copies_28_29_L3 v1 v3) (C := fun s => pw l (px_R 1) y_Mo_copies c_Mo_copies 5 none 3 [(0, .inr (some (1, 28, 0))), (1, .inl v1), (2, .inr (some (1, 29, 0))), (3, .inl v3), (4, .inl s.1)] [] ids mG s.2 0 0 Rt) (X := fun e => (pw l (px_R 1) y_Mo_copies c_Mo_copies 5 none 29 [] [] ids mG e 0 0 Rt)) ?_ ?_ n s e h hX0
  · intro s s1 hf hC
    exact Mo_copies_28_29_n3_l hf (fun s2 hs => by cases hs; exact hC) (fun e he => by cases he)
  · intro s e hf hX
    exact Mo_copies_28_29_n3_l hf (fun s2 hs => by cases hs) (fun e1 he => by cases he; exact hX)
def F_Mo_copies_28_29 (σ : pxS) (v1 : Int32) (v3 : Int32) : Option (pxS) :=
  px_b1 (px_it (Mo_copies_28_29_L3 v1 v3) px_N (0, σ)) fun e5 =>
  some e5
set_option maxRecDepth 100000 in
theorem e_Mo_copies_28_29 {l : Launch} {ids : List pxI} {Rt : Option pxV → List pxI → pxG → pxS → Prop} {σ : pxS} {v1 : Int32} {v3 : Int32} {res : pxS} (h : F_Mo_copies_28_29 σ v1 v3 = some res) (hR : Rt none ids mG res) : pw l (px_R 1) y_Mo_copies c_Mo_copies 5 none 0 [(0, .inr (some (1, 28, 0))), (1, .inl v1), (2, .inr (some (1, 29, 0))), (3, .inl v3)] [] ids mG σ 0 0 Rt := by
  unfold F_Mo_copies_28_29 at h
  refine pw_iconst (v := 0) (px_at td_Mo_copies 0 rfl) (by decide) ?_
  refine pw_istore (L' := [(4, .inl 0), (0, .inr (some (1, 28, 0))), (1, .inl v1), (2, .inr (some (1, 29, 0))), (3, .inl v3)]) (px_at td_Mo_copies 1 rfl) (by decide) rfl ?_
  obtain ⟨e5, he5, h⟩ := px_b1_e h
  refine pw_L [(0, .inr (some (1, 28, 0))), (1, .inl v1), (2, .inr (some (1, 29, 0))), (3, .inl v3), (4, .inl 0)] [1, 2, 3, 4, 0] rfl ?_
  refine Mo_copies_28_29_L3_l he5 ?_
  obtain rfl := Option.some.inj h
  exact pw_vret (px_at td_Mo_copies 17 rfl) rfl (Nat.le_refl 0) (Nat.le_refl 0) hR
theorem k_Mo_copies_28_29 {l : Launch} {ids : List pxI} {σ : pxS} {v1 : Int32} {v3 : Int32} {res : pxS} (h : F_Mo_copies_28_29 σ v1 v3 = some res) : pm l y_Mo_copies c_Mo_copies 5 none (px_R 1) [.inr (some (1, 28, 0)), .inl v1, .inr (some (1, 29, 0)), .inl v3] ids mG σ (px_r none ids mG res) :=
  pm_ofF (by decide +kernel) (Nat.le_of_ble_eq_true rfl) (e_Mo_copies_28_29 h ⟨rfl, rfl, rfl, rfl⟩)
