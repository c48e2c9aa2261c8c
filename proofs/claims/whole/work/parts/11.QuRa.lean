/-! Ra_start -/
def F_Ra_start (σ : pxS) (k0 : Nat) (j0 : Nat) (v1 : Int32) (v2 : Int32) : Option (pxS) :=
  px_l (px_up σ (3, k0, j0) 0 v1) fun σ1 =>
  px_l (px_up σ1 (3, k0, j0) 1 v2) fun σ2 =>
  px_l (px_up σ2 (3, k0, j0) 2 0) fun σ3 =>
  px_l (px_up σ3 (3, k0, j0) 3 0) fun σ4 =>
  px_l (px_up σ4 (3, k0, j0) 4 0) fun σ5 =>
  px_l (px_up σ5 (3, k0, j0) 5 0) fun σ6 =>
  px_l (px_up σ6 (3, k0, j0) 6 0) fun σ7 =>
  px_l (px_up σ7 (3, k0, j0) 7 0) fun σ8 =>
  px_l (px_up σ8 (3, k0, j0) 8 (-2)) fun σ9 =>
  px_l (px_up σ9 (3, k0, j0) 9 0) fun σ10 =>
  px_l (px_up σ10 (3, k0, j0) 10 0) fun σ11 =>
  px_l (px_up σ11 (3, k0, j0) 11 (-2)) fun σ12 =>
  px_l (px_up σ12 (3, k0, j0) 12 0) fun σ13 =>
  some σ13
set_option maxRecDepth 100000 in
theorem e_Ra_start {l : Launch} {ids : List pxI} {Rt : Option pxV → List pxI → pxG → pxS → Prop} {σ : pxS} {k0 : Nat} {j0 : Nat} {v1 : Int32} {v2 : Int32} {res : pxS} (h : F_Ra_start σ k0 j0 v1 v2 = some res) (hR : Rt none ids cG res) : pw l (px_R 1) y_Ra_start c_Ra_start 3 none 0 [(0, .inr (some (3, k0, j0))), (1, .inl v1), (2, .inl v2)] [] ids cG σ 0 0 Rt := by
  unfold F_Ra_start at h
  refine pw_aload_n 0 (px_at td_Ra_start 0 rfl) rfl rfl ?_
  refine pw_iload_n 1 (px_at td_Ra_start 1 rfl) rfl rfl ?_
  obtain ⟨σ1, hσ1, h⟩ := px_l_e h
  refine pw_puti (px_at td_Ra_start 2 rfl) lw_Ra_9 rfl rfl (pw_s hσ1 ?_)
  refine pw_aload_n 0 (px_at td_Ra_start 3 rfl) rfl rfl ?_
  refine pw_iload_n 2 (px_at td_Ra_start 4 rfl) rfl rfl ?_
  obtain ⟨σ2, hσ2, h⟩ := px_l_e h
  refine pw_puti (px_at td_Ra_start 5 rfl) lw_Ra_15 rfl rfl (pw_s hσ2 ?_)
  refine pw_aload_n 0 (px_at td_Ra_start 6 rfl) rfl rfl ?_
  refine pw_iconst (v := 0) (px_at td_Ra_start 7 rfl) (by decide) ?_
  obtain ⟨σ3, hσ3, h⟩ := px_l_e h
  refine pw_puti (px_at td_Ra_start 8 rfl) lw_Ra_18 rfl rfl (pw_s hσ3 ?_)
  refine pw_aload_n 0 (px_at td_Ra_start 9 rfl) rfl rfl ?_
  refine pw_iconst (v := 0) (px_at td_Ra_start 10 rfl) (by decide) ?_
  obtain ⟨σ4, hσ4, h⟩ := px_l_e h
  refine pw_puti (px_at td_Ra_start 11 rfl) lw_Ra_21 rfl rfl (pw_s hσ4 ?_)
  refine pw_aload_n 0 (px_at td_Ra_start 12 rfl) rfl rfl ?_
  refine pw_iconst (v := 0) (px_at td_Ra_start 13 rfl) (by decide) ?_
  obtain ⟨σ5, hσ5, h⟩ := px_l_e h
  refine pw_puti (px_at td_Ra_start 14 rfl) lw_Ra_24 rfl rfl (pw_s hσ5 ?_)
  refine pw_aload_n 0 (px_at td_Ra_start 15 rfl) rfl rfl ?_
  refine pw_iconst (v := 0) (px_at td_Ra_start 16 rfl) (by decide) ?_
  obtain ⟨σ6, hσ6, h⟩ := px_l_e h
  refine pw_puti (px_at td_Ra_start 17 rfl) lw_Ra_27 rfl rfl (pw_s hσ6 ?_)
  refine pw_aload_n 0 (px_at td_Ra_start 18 rfl) rfl rfl ?_
  refine pw_iconst (v := 0) (px_at td_Ra_start 19 rfl) (by decide) ?_
  obtain ⟨σ7, hσ7, h⟩ := px_l_e h
  refine pw_putz (px_at td_Ra_start 20 rfl) lw_Ra_30 rfl rfl (by decide) (pw_s hσ7 ?_)
  refine pw_aload_n 0 (px_at td_Ra_start 21 rfl) rfl rfl ?_
  refine pw_iconst (v := 0) (px_at td_Ra_start 22 rfl) (by decide) ?_
  obtain ⟨σ8, hσ8, h⟩ := px_l_e h
  refine pw_puti (px_at td_Ra_start 23 rfl) lw_Ra_34 rfl rfl (pw_s hσ8 ?_)
  refine pw_aload_n 0 (px_at td_Ra_start 24 rfl) rfl rfl ?_
  refine pw_bipush (v := (-2)) (px_at td_Ra_start 25 rfl) (by decide) ?_
  obtain ⟨σ9, hσ9, h⟩ := px_l_e h
  refine pw_puti (px_at td_Ra_start 26 rfl) lw_Ra_37 rfl rfl (pw_s hσ9 ?_)
  refine pw_aload_n 0 (px_at td_Ra_start 27 rfl) rfl rfl ?_
  refine pw_iconst (v := 0) (px_at td_Ra_start 28 rfl) (by decide) ?_
  obtain ⟨σ10, hσ10, h⟩ := px_l_e h
  refine pw_puti (px_at td_Ra_start 29 rfl) lw_Ra_40 rfl rfl (pw_s hσ10 ?_)
  refine pw_aload_n 0 (px_at td_Ra_start 30 rfl) rfl rfl ?_
  refine pw_iconst (v := 0) (px_at td_Ra_start 31 rfl) (by decide) ?_
  obtain ⟨σ11, hσ11, h⟩ := px_l_e h
  refine pw_puti (px_at td_Ra_start 32 rfl) lw_Ra_43 rfl rfl (pw_s hσ11 ?_)
  refine pw_aload_n 0 (px_at td_Ra_start 33 rfl) rfl rfl ?_
  refine pw_bipush (v := (-2)) (px_at td_Ra_start 34 rfl) (by decide) ?_
  obtain ⟨σ12, hσ12, h⟩ := px_l_e h
  refine pw_puti (px_at td_Ra_start 35 rfl) lw_Ra_46 rfl rfl (pw_s hσ12 ?_)
  refine pw_aload_n 0 (px_at td_Ra_start 36 rfl) rfl rfl ?_
  refine pw_iconst (v := 0) (px_at td_Ra_start 37 rfl) (by decide) ?_
  obtain ⟨σ13, hσ13, h⟩ := px_l_e h
  refine pw_putz (px_at td_Ra_start 38 rfl) lw_Ra_49 rfl rfl (by decide) (pw_s hσ13 ?_)
  obtain rfl := Option.some.inj h
  exact pw_vret (px_at td_Ra_start 39 rfl) rfl (Nat.le_refl 0) (Nat.le_refl 0) hR
theorem k_Ra_start {l : Launch} {ids : List pxI} {σ : pxS} {k0 : Nat} {j0 : Nat} {v1 : Int32} {v2 : Int32} {res : pxS} (h : F_Ra_start σ k0 j0 v1 v2 = some res) : pm l y_Ra_start c_Ra_start 3 none (px_R 1) [.inr (some (3, k0, j0)), .inl v1, .inl v2] ids cG σ (px_r none ids cG res) :=
  pm_ofF (by decide +kernel) (Nat.le_of_ble_eq_true rfl) (e_Ra_start h ⟨rfl, rfl, rfl, rfl⟩)
/-! Qu_forget -/
def F_Qu_forget (σ : pxS) (k0 : Nat) (j0 : Nat) : Option (pxS) :=
  px_l (px_up σ (4, k0, j0) 1 0) fun σ1 =>
  px_l (px_up σ1 (4, k0, j0) 2 0) fun σ2 =>
  some σ2
set_option maxRecDepth 100000 in
theorem e_Qu_forget {l : Launch} {ids : List pxI} {Rt : Option pxV → List pxI → pxG → pxS → Prop} {σ : pxS} {k0 : Nat} {j0 : Nat} {res : pxS} (h : F_Qu_forget σ k0 j0 = some res) (hR : Rt none ids cG res) : pw l (px_R 1) y_Qu_forget c_Qu_forget 1 none 0 [(0, .inr (some (4, k0, j0)))] [] ids cG σ 0 0 Rt := by
  unfold F_Qu_forget at h
  refine pw_aload_n 0 (px_at td_Qu_forget 0 rfl) rfl rfl ?_
  refine pw_iconst (v := 0) (px_at td_Qu_forget 1 rfl) (by decide) ?_
  obtain ⟨σ1, hσ1, h⟩ := px_l_e h
  refine pw_puti (px_at td_Qu_forget 2 rfl) lw_Qu_15 rfl rfl (pw_s hσ1 ?_)
  refine pw_aload_n 0 (px_at td_Qu_forget 3 rfl) rfl rfl ?_
  refine pw_iconst (v := 0) (px_at td_Qu_forget 4 rfl) (by decide) ?_
  obtain ⟨σ2, hσ2, h⟩ := px_l_e h
  refine pw_puti (px_at td_Qu_forget 5 rfl) lw_Qu_19 rfl rfl (pw_s hσ2 ?_)
  obtain rfl := Option.some.inj h
  exact pw_vret (px_at td_Qu_forget 6 rfl) rfl (Nat.le_refl 0) (Nat.le_refl 0) hR
theorem k_Qu_forget {l : Launch} {ids : List pxI} {σ : pxS} {k0 : Nat} {j0 : Nat} {res : pxS} (h : F_Qu_forget σ k0 j0 = some res) : pm l y_Qu_forget c_Qu_forget 1 none (px_R 1) [.inr (some (4, k0, j0))] ids cG σ (px_r none ids cG res) :=
  pm_ofF (by decide +kernel) (Nat.le_of_ble_eq_true rfl) (e_Qu_forget h ⟨rfl, rfl, rfl, rfl⟩)
/-! Ra_copyFrom -/
def F_Ra_copyFrom (σ : pxS) (k0 : Nat) (j0 : Nat) (k1 : Nat) (j1 : Nat) : Option (pxS) :=
  px_l (px_up σ (3, k0, j0) 0 (σ (3, k1, j1) 0)) fun σ1 =>
  px_l (px_up σ1 (3, k0, j0) 1 (σ1 (3, k1, j1) 1)) fun σ2 =>
  px_l (px_up σ2 (3, k0, j0) 2 (σ2 (3, k1, j1) 2)) fun σ3 =>
  px_l (px_up σ3 (3, k0, j0) 3 (σ3 (3, k1, j1) 3)) fun σ4 =>
  px_l (px_up σ4 (3, k0, j0) 4 (σ4 (3, k1, j1) 4)) fun σ5 =>
  px_l (px_up σ5 (3, k0, j0) 5 (σ5 (3, k1, j1) 5)) fun σ6 =>
  px_gb (σ6 (3, k1, j1) 6) (px_l (px_up σ6 (3, k0, j0) 6 (σ6 (3, k1, j1) 6)) fun σ7 =>
  px_l (px_up σ7 (3, k0, j0) 7 (σ7 (3, k1, j1) 7)) fun σ8 =>
  px_l (px_up σ8 (3, k0, j0) 8 (σ8 (3, k1, j1) 8)) fun σ9 =>
  px_l (px_up σ9 (3, k0, j0) 9 (σ9 (3, k1, j1) 9)) fun σ10 =>
  px_l (px_up σ10 (3, k0, j0) 10 (σ10 (3, k1, j1) 10)) fun σ11 =>
  px_l (px_up σ11 (3, k0, j0) 11 (σ11 (3, k1, j1) 11)) fun σ12 =>
  px_gb (σ12 (3, k1, j1) 12) (px_l (px_up σ12 (3, k0, j0) 12 (σ12 (3, k1, j1) 12)) fun σ13 =>
  some σ13))
set_option maxRecDepth 100000 in
theorem e_Ra_copyFrom {l : Launch} {ids : List pxI} {Rt : Option pxV → List pxI → pxG → pxS → Prop} {σ : pxS} {k0 : Nat} {j0 : Nat} {k1 : Nat} {j1 : Nat} {res : pxS} (h : F_Ra_copyFrom σ k0 j0 k1 j1 = some res) (hR : Rt none ids cG res) : pw l (px_R 1) y_Ra_copyFrom c_Ra_copyFrom 2 none 0 [(0, .inr (some (3, k0, j0))), (1, .inr (some (3, k1, j1)))] [] ids cG σ 0 0 Rt := by
  unfold F_Ra_copyFrom at h
  refine pw_aload_n 0 (px_at td_Ra_copyFrom 0 rfl) rfl rfl ?_
  refine pw_aload_n 1 (px_at td_Ra_copyFrom 1 rfl) rfl rfl ?_
  refine pw_getf (v := .inl (σ (3, k1, j1) 0)) (px_at td_Ra_copyFrom 2 rfl) lf_Ra_9 rfl rfl rfl ?_
  obtain ⟨σ1, hσ1, h⟩ := px_l_e h
  refine pw_puti (px_at td_Ra_copyFrom 3 rfl) lw_Ra_9 rfl rfl (pw_s hσ1 ?_)
  refine pw_aload_n 0 (px_at td_Ra_copyFrom 4 rfl) rfl rfl ?_
  refine pw_aload_n 1 (px_at td_Ra_copyFrom 5 rfl) rfl rfl ?_
  refine pw_getf (v := .inl (σ1 (3, k1, j1) 1)) (px_at td_Ra_copyFrom 6 rfl) lf_Ra_15 rfl rfl rfl ?_
  obtain ⟨σ2, hσ2, h⟩ := px_l_e h
  refine pw_puti (px_at td_Ra_copyFrom 7 rfl) lw_Ra_15 rfl rfl (pw_s hσ2 ?_)
  refine pw_aload_n 0 (px_at td_Ra_copyFrom 8 rfl) rfl rfl ?_
  refine pw_aload_n 1 (px_at td_Ra_copyFrom 9 rfl) rfl rfl ?_
  refine pw_getf (v := .inl (σ2 (3, k1, j1) 2)) (px_at td_Ra_copyFrom 10 rfl) lf_Ra_18 rfl rfl rfl ?_
  obtain ⟨σ3, hσ3, h⟩ := px_l_e h
  refine pw_puti (px_at td_Ra_copyFrom 11 rfl) lw_Ra_18 rfl rfl (pw_s hσ3 ?_)
  refine pw_aload_n 0 (px_at td_Ra_copyFrom 12 rfl) rfl rfl ?_
  refine pw_aload_n 1 (px_at td_Ra_copyFrom 13 rfl) rfl rfl ?_
  refine pw_getf (v := .inl (σ3 (3, k1, j1) 3)) (px_at td_Ra_copyFrom 14 rfl) lf_Ra_21 rfl rfl rfl ?_
  obtain ⟨σ4, hσ4, h⟩ := px_l_e h
  refine pw_puti (px_at td_Ra_copyFrom 15 rfl) lw_Ra_21 rfl rfl (pw_s hσ4 ?_)
  refine pw_aload_n 0 (px_at td_Ra_copyFrom 16 rfl) rfl rfl ?_
  refine pw_aload_n 1 (px_at td_Ra_copyFrom 17 rfl) rfl rfl ?_
  refine pw_getf (v := .inl (σ4 (3, k1, j1) 4)) (px_at td_Ra_copyFrom 18 rfl) lf_Ra_24 rfl rfl rfl ?_
  obtain ⟨σ5, hσ5, h⟩ := px_l_e h
  refine pw_puti (px_at td_Ra_copyFrom 19 rfl) lw_Ra_24 rfl rfl (pw_s hσ5 ?_)
  refine pw_aload_n 0 (px_at td_Ra_copyFrom 20 rfl) rfl rfl ?_
  refine pw_aload_n 1 (px_at td_Ra_copyFrom 21 rfl) rfl rfl ?_
  refine pw_getf (v := .inl (σ5 (3, k1, j1) 5)) (px_at td_Ra_copyFrom 22 rfl) lf_Ra_27 rfl rfl rfl ?_
  obtain ⟨σ6, hσ6, h⟩ := px_l_e h
  refine pw_puti (px_at td_Ra_copyFrom 23 rfl) lw_Ra_27 rfl rfl (pw_s hσ6 ?_)
  refine pw_aload_n 0 (px_at td_Ra_copyFrom 24 rfl) rfl rfl ?_
  refine pw_aload_n 1 (px_at td_Ra_copyFrom 25 rfl) rfl rfl ?_
  refine pw_getf (v := .inl (σ6 (3, k1, j1) 6)) (px_at td_Ra_copyFrom 26 rfl) lf_Ra_30 rfl rfl rfl ?_
  obtain ⟨hb7, h⟩ := px_gb_e h
  obtain ⟨σ7, hσ7, h⟩ := px_l_e h
  refine pw_putz (px_at td_Ra_copyFrom 27 rfl) lw_Ra_30 rfl rfl hb7 (pw_s hσ7 ?_)
  refine pw_aload_n 0 (px_at td_Ra_copyFrom 28 rfl) rfl rfl ?_
  refine pw_aload_n 1 (px_at td_Ra_copyFrom 29 rfl) rfl rfl ?_
  refine pw_getf (v := .inl (σ7 (3, k1, j1) 7)) (px_at td_Ra_copyFrom 30 rfl) lf_Ra_34 rfl rfl rfl ?_
  obtain ⟨σ8, hσ8, h⟩ := px_l_e h
  refine pw_puti (px_at td_Ra_copyFrom 31 rfl) lw_Ra_34 rfl rfl (pw_s hσ8 ?_)
  refine pw_aload_n 0 (px_at td_Ra_copyFrom 32 rfl) rfl rfl ?_
  refine pw_aload_n 1 (px_at td_Ra_copyFrom 33 rfl) rfl rfl ?_
  refine pw_getf (v := .inl (σ8 (3, k1, j1) 8)) (px_at td_Ra_copyFrom 34 rfl) lf_Ra_37 rfl rfl rfl ?_
  obtain ⟨σ9, hσ9, h⟩ := px_l_e h
  refine pw_puti (px_at td_Ra_copyFrom 35 rfl) lw_Ra_37 rfl rfl (pw_s hσ9 ?_)
  refine pw_aload_n 0 (px_at td_Ra_copyFrom 36 rfl) rfl rfl ?_
  refine pw_aload_n 1 (px_at td_Ra_copyFrom 37 rfl) rfl rfl ?_
  refine pw_getf (v := .inl (σ9 (3, k1, j1) 9)) (px_at td_Ra_copyFrom 38 rfl) lf_Ra_40 rfl rfl rfl ?_
  obtain ⟨σ10, hσ10, h⟩ := px_l_e h
  refine pw_puti (px_at td_Ra_copyFrom 39 rfl) lw_Ra_40 rfl rfl (pw_s hσ10 ?_)
  refine pw_aload_n 0 (px_at td_Ra_copyFrom 40 rfl) rfl rfl ?_
  refine pw_aload_n 1 (px_at td_Ra_copyFrom 41 rfl) rfl rfl ?_
  refine pw_getf (v := .inl (σ10 (3, k1, j1) 10)) (px_at td_Ra_copyFrom 42 rfl) lf_Ra_43 rfl rfl rfl ?_
  obtain ⟨σ11, hσ11, h⟩ := px_l_e h
  refine pw_puti (px_at td_Ra_copyFrom 43 rfl) lw_Ra_43 rfl rfl (pw_s hσ11 ?_)
  refine pw_aload_n 0 (px_at td_Ra_copyFrom 44 rfl) rfl rfl ?_
  refine pw_aload_n 1 (px_at td_Ra_copyFrom 45 rfl) rfl rfl ?_
  refine pw_getf (v := .inl (σ11 (3, k1, j1) 11)) (px_at td_Ra_copyFrom 46 rfl) lf_Ra_46 rfl rfl rfl ?_
  obtain ⟨σ12, hσ12, h⟩ := px_l_e h
  refine pw_puti (px_at td_Ra_copyFrom 47 rfl) lw_Ra_46 rfl rfl (pw_s hσ12 ?_)
  refine pw_aload_n 0 (px_at td_Ra_copyFrom 48 rfl) rfl rfl ?_
  refine pw_aload_n 1 (px_at td_Ra_copyFrom 49 rfl) rfl rfl ?_
  refine pw_getf (v := .inl (σ12 (3, k1, j1) 12)) (px_at td_Ra_copyFrom 50 rfl) lf_Ra_49 rfl rfl rfl ?_
  obtain ⟨hb13, h⟩ := px_gb_e h
  obtain ⟨σ13, hσ13, h⟩ := px_l_e h
  refine pw_putz (px_at td_Ra_copyFrom 51 rfl) lw_Ra_49 rfl rfl hb13 (pw_s hσ13 ?_)
  obtain rfl := Option.some.inj h
  exact pw_vret (px_at td_Ra_copyFrom 52 rfl) rfl (Nat.le_refl 0) (Nat.le_refl 0) hR
theorem k_Ra_copyFrom {l : Launch} {ids : List pxI} {σ : pxS} {k0 : Nat} {j0 : Nat} {k1 : Nat} {j1 : Nat} {res : pxS} (h : F_Ra_copyFrom σ k0 j0 k1 j1 = some res) : pm l y_Ra_copyFrom c_Ra_copyFrom 2 none (px_R 1) [.inr (some (3, k0, j0)), .inr (some (3, k1, j1))] ids cG σ (px_r none ids cG res) :=
  pm_ofF (by decide +kernel) (Nat.le_of_ble_eq_true rfl) (e_Ra_copyFrom h ⟨rfl, rfl, rfl, rfl⟩)
/-! Qu_copyFrom -/
def F_Qu_copyFrom (σ : pxS) (k0 : Nat) (j0 : Nat) (k1 : Nat) (j1 : Nat) : Option (pxS) :=
  px_l (px_up σ (4, k0, j0) 1 (σ (4, k1, j1) 1)) fun σ1 =>
  px_l (px_up σ1 (4, k0, j0) 2 (σ1 (4, k1, j1) 2)) fun σ2 =>
  px_l (px_cp σ2 (10, k1, j1) (10, k0, j0) 12) fun σ3 =>
  some σ3
set_option maxRecDepth 100000 in
theorem e_Qu_copyFrom {l : Launch} {ids : List pxI} {Rt : Option pxV → List pxI → pxG → pxS → Prop} {σ : pxS} {k0 : Nat} {j0 : Nat} {k1 : Nat} {j1 : Nat} {res : pxS} (h : F_Qu_copyFrom σ k0 j0 k1 j1 = some res) (hR : Rt none ids cG res) : pw l (px_R 1) y_Qu_copyFrom c_Qu_copyFrom 2 none 0 [(0, .inr (some (4, k0, j0))), (1, .inr (some (4, k1, j1)))] [] ids cG σ 0 0 Rt := by
  unfold F_Qu_copyFrom at h
  refine pw_aload_n 0 (px_at td_Qu_copyFrom 0 rfl) rfl rfl ?_
  refine pw_aload_n 1 (px_at td_Qu_copyFrom 1 rfl) rfl rfl ?_
  refine pw_getf (v := .inl (σ (4, k1, j1) 1)) (px_at td_Qu_copyFrom 2 rfl) lf_Qu_15 rfl rfl rfl ?_
  obtain ⟨σ1, hσ1, h⟩ := px_l_e h
  refine pw_puti (px_at td_Qu_copyFrom 3 rfl) lw_Qu_15 rfl rfl (pw_s hσ1 ?_)
  refine pw_aload_n 0 (px_at td_Qu_copyFrom 4 rfl) rfl rfl ?_
  refine pw_aload_n 1 (px_at td_Qu_copyFrom 5 rfl) rfl rfl ?_
  refine pw_getf (v := .inl (σ1 (4, k1, j1) 2)) (px_at td_Qu_copyFrom 6 rfl) lf_Qu_19 rfl rfl rfl ?_
  obtain ⟨σ2, hσ2, h⟩ := px_l_e h
  refine pw_puti (px_at td_Qu_copyFrom 7 rfl) lw_Qu_19 rfl rfl (pw_s hσ2 ?_)
  refine pw_aload_n 1 (px_at td_Qu_copyFrom 8 rfl) rfl rfl ?_
  refine pw_getf (v := .inr (some (10, k1, j1))) (px_at td_Qu_copyFrom 9 rfl) lf_Qu_9 rfl rfl rfl ?_
  refine pw_iconst (v := 0) (px_at td_Qu_copyFrom 10 rfl) (by decide) ?_
  refine pw_aload_n 0 (px_at td_Qu_copyFrom 11 rfl) rfl rfl ?_
  refine pw_getf (v := .inr (some (10, k0, j0))) (px_at td_Qu_copyFrom 12 rfl) lf_Qu_9 rfl rfl rfl ?_
  refine pw_iconst (v := 0) (px_at td_Qu_copyFrom 13 rfl) (by decide) ?_
  refine pw_bipush (v := 12) (px_at td_Qu_copyFrom 14 rfl) (by decide) ?_
  obtain ⟨σ3, hσ3, h⟩ := px_l_e h
  refine pw_copyi (px_at td_Qu_copyFrom 15 rfl) lm_Qu_22 wn_System_arraycopy ws_System_arraycopy wi_java_lang_System rfl rfl px_z12 (by decide) (by decide) (by decide) (by decide) (Nat.le_of_ble_eq_true rfl) (pw_s hσ3 ?_)
  obtain rfl := Option.some.inj h
  exact pw_vret (px_at td_Qu_copyFrom 16 rfl) rfl (Nat.le_refl 0) (Nat.le_refl 0) hR
theorem k_Qu_copyFrom {l : Launch} {ids : List pxI} {σ : pxS} {k0 : Nat} {j0 : Nat} {k1 : Nat} {j1 : Nat} {res : pxS} (h : F_Qu_copyFrom σ k0 j0 k1 j1 = some res) : pm l y_Qu_copyFrom c_Qu_copyFrom 2 none (px_R 1) [.inr (some (4, k0, j0)), .inr (some (4, k1, j1))] ids cG σ (px_r none ids cG res) :=
  pm_ofF (by decide +kernel) (Nat.le_of_ble_eq_true rfl) (e_Qu_copyFrom h ⟨rfl, rfl, rfl, rfl⟩)
/-! Qu_drop -/
def Qu_drop_n43 (σ : pxS) (k0 : Nat) (j0 : Nat) (v1 : Int32) (v2 : Int32) (v3 : Int32) : Option ((Int32 × Int32 × pxS) ⊕ (Int32 × pxS)) :=
  some (.inl (v2, (v3 + 1), σ))
set_option maxRecDepth 100000 in
theorem Qu_drop_n43_l {l : Launch} {ids : List pxI} {Rt : Option pxV → List pxI → pxG → pxS → Prop} {σ : pxS} {k0 : Nat} {j0 : Nat} {v1 : Int32} {v2 : Int32} {v3 : Int32} {o : (Int32 × Int32 × pxS) ⊕ (Int32 × pxS)} (h : Qu_drop_n43 σ k0 j0 v1 v2 v3 = some o) (hC : ∀ s, o = .inl s → pw l (px_R 1) y_Qu_drop c_Qu_drop 4 none 4 [(0, .inr (some (4, k0, j0))), (1, .inl v1), (2, .inl s.1), (3, .inl s.2.1)] [] ids cG s.2.2 0 0 Rt) (hX0 : ∀ e, o = .inr e → pw l (px_R 1) y_Qu_drop c_Qu_drop 4 none 49 [(0, .inr (some (4, k0, j0))), (1, .inl v1), (2, .inl e.1)] [] ids cG e.2 0 0 Rt) : pw l (px_R 1) y_Qu_drop c_Qu_drop 4 none 43 [(0, .inr (some (4, k0, j0))), (1, .inl v1), (2, .inl v2), (3, .inl v3)] [] ids cG σ 0 0 Rt := by
  unfold Qu_drop_n43 at h
  refine pw_iinc (q := 3) (v := (v3 + 1)) (L' := [(3, .inl (v3 + 1)), (0, .inr (some (4, k0, j0))), (1, .inl v1), (2, .inl v2)]) (px_at td_Qu_drop 26 rfl) rfl rfl (by decide) rfl ?_
  refine pw_goto 4 (px_at td_Qu_drop 27 rfl) (by decide) ?_
  refine pw_L [(0, .inr (some (4, k0, j0))), (1, .inl v1), (2, .inl v2), (3, .inl (v3 + 1))] [1, 2, 3, 0] rfl ?_
  exact hC (v2, (v3 + 1), σ) (Option.some.inj h).symm
def Qu_drop_n4 (σ : pxS) (k0 : Nat) (j0 : Nat) (v1 : Int32) (v2 : Int32) (v3 : Int32) : Option ((Int32 × Int32 × pxS) ⊕ (Int32 × pxS)) :=
  (if (σ (4, k0, j0) 1) ≤ v3 then some (.inr (v2, σ)) else (if 12 ≤ v3 then some (.inr (v2, σ)) else px_gd v3 12 ((if (σ (10, k0, j0) v3.toNatClampNeg) = v1 then Qu_drop_n43 σ k0 j0 v1 v2 v3 else px_gd v3 12 (px_gd v2 12 (px_l (px_up σ (10, k0, j0) v2.toNatClampNeg (σ (10, k0, j0) v3.toNatClampNeg)) fun σ4 =>
  Qu_drop_n43 σ4 k0 j0 v1 (v2 + 1) v3))))))
set_option maxRecDepth 100000 in
theorem Qu_drop_n4_l {l : Launch} {ids : List pxI} {Rt : Option pxV → List pxI → pxG → pxS → Prop} {σ : pxS} {k0 : Nat} {j0 : Nat} {v1 : Int32} {v2 : Int32} {v3 : Int32} {o : (Int32 × Int32 × pxS) ⊕ (Int32 × pxS)} (h : Qu_drop_n4 σ k0 j0 v1 v2 v3 = some o) (hC : ∀ s, o = .inl s → pw l (px_R 1) y_Qu_drop c_Qu_drop 4 none 4 [(0, .inr (some (4, k0, j0))), (1, .inl v1), (2, .inl s.1), (3, .inl s.2.1)] [] ids cG s.2.2 0 0 Rt) (hX0 : ∀ e, o = .inr e → pw l (px_R 1) y_Qu_drop c_Qu_drop 4 none 49 [(0, .inr (some (4, k0, j0))), (1, .inl v1), (2, .inl e.1)] [] ids cG e.2 0 0 Rt) : pw l (px_R 1) y_Qu_drop c_Qu_drop 4 none 4 [(0, .inr (some (4, k0, j0))), (1, .inl v1), (2, .inl v2), (3, .inl v3)] [] ids cG σ 0 0 Rt := by
  unfold Qu_drop_n4 at h
  refine pw_iload_n 3 (px_at td_Qu_drop 4 rfl) rfl rfl ?_
  refine pw_aload_n 0 (px_at td_Qu_drop 5 rfl) rfl rfl ?_
  refine pw_getf (v := .inl (σ (4, k0, j0) 1)) (px_at td_Qu_drop 6 rfl) lf_Qu_15 rfl rfl rfl ?_
  rcases px_ite h with ⟨hc7, h⟩ | ⟨hc7, h⟩
  · refine pw_icmp_ge 49 (px_at td_Qu_drop 7 rfl) (by decide) (fun _ => ?_) (fun hn => absurd hc7 hn)
    refine pw_L [(0, .inr (some (4, k0, j0))), (1, .inl v1), (2, .inl v2)] [0, 1, 2] rfl ?_
    exact hX0 (v2, σ) (Option.some.inj h).symm
  · refine pw_icmp_ge 49 (px_at td_Qu_drop 7 rfl) (by decide) (fun hn => absurd hn hc7) (fun _ => ?_)
    refine pw_iload_n 3 (px_at td_Qu_drop 8 rfl) rfl rfl ?_
    refine pw_bipush (v := 12) (px_at td_Qu_drop 9 rfl) (by decide) ?_
    rcases px_ite h with ⟨hc6, h⟩ | ⟨hc6, h⟩
    · refine pw_icmp_ge 49 (px_at td_Qu_drop 10 rfl) (by decide) (fun _ => ?_) (fun hn => absurd hc6 hn)
      refine pw_L [(0, .inr (some (4, k0, j0))), (1, .inl v1), (2, .inl v2)] [0, 1, 2] rfl ?_
      exact hX0 (v2, σ) (Option.some.inj h).symm
    · refine pw_icmp_ge 49 (px_at td_Qu_drop 10 rfl) (by decide) (fun hn => absurd hn hc6) (fun _ => ?_)
      refine pw_aload_n 0 (px_at td_Qu_drop 11 rfl) rfl rfl ?_
      refine pw_getf (v := .inr (some (10, k0, j0))) (px_at td_Qu_drop 12 rfl) lf_Qu_9 rfl rfl rfl ?_
      refine pw_iload_n 3 (px_at td_Qu_drop 13 rfl) rfl rfl ?_
      obtain ⟨hi1, h⟩ := px_gd_e h
      refine pw_ial (px_at td_Qu_drop 14 rfl) rfl hi1 rfl ?_
      refine pw_iload_n 1 (px_at td_Qu_drop 15 rfl) rfl rfl ?_
      rcases px_ite h with ⟨hc5, h⟩ | ⟨hc5, h⟩
      · refine pw_icmp_eq 43 (px_at td_Qu_drop 16 rfl) (by decide) (fun _ => ?_) (fun hn => absurd hc5 hn)
        exact Qu_drop_n43_l h hC hX0
      · refine pw_icmp_eq 43 (px_at td_Qu_drop 16 rfl) (by decide) (fun hn => absurd hn hc5) (fun _ => ?_)
        refine pw_aload_n 0 (px_at td_Qu_drop 17 rfl) rfl rfl ?_
        refine pw_getf (v := .inr (some (10, k0, j0))) (px_at td_Qu_drop 18 rfl) lf_Qu_9 rfl rfl rfl ?_
        refine pw_iload_n 2 (px_at td_Qu_drop 19 rfl) rfl rfl ?_
        refine pw_aload_n 0 (px_at td_Qu_drop 20 rfl) rfl rfl ?_
        refine pw_getf (v := .inr (some (10, k0, j0))) (px_at td_Qu_drop 21 rfl) lf_Qu_9 rfl rfl rfl ?_
        refine pw_iload_n 3 (px_at td_Qu_drop 22 rfl) rfl rfl ?_
        obtain ⟨hi2, h⟩ := px_gd_e h
        refine pw_ial (px_at td_Qu_drop 23 rfl) rfl hi2 rfl ?_
        obtain ⟨hi3, h⟩ := px_gd_e h
        obtain ⟨σ4, hσ4, h⟩ := px_l_e h
        refine pw_ias (px_at td_Qu_drop 24 rfl) rfl hi3 rfl hσ4 ?_
        refine pw_iinc (q := 2) (v := (v2 + 1)) (L' := [(2, .inl (v2 + 1)), (0, .inr (some (4, k0, j0))), (1, .inl v1), (3, .inl v3)]) (px_at td_Qu_drop 25 rfl) rfl rfl (by decide) rfl ?_
        refine pw_L [(0, .inr (some (4, k0, j0))), (1, .inl v1), (2, .inl (v2 + 1)), (3, .inl v3)] [1, 2, 0, 3] rfl ?_
        exact Qu_drop_n43_l h hC hX0
def Qu_drop_L4 (k0 : Nat) (j0 : Nat) (v1 : Int32) : (Int32 × Int32 × pxS) → Option ((Int32 × Int32 × pxS) ⊕ (Int32 × pxS)) := fun s => Qu_drop_n4 s.2.2 k0 j0 v1 s.1 s.2.1
set_option maxRecDepth 100000 in
theorem Qu_drop_L4_l {l : Launch} {ids : List pxI} {Rt : Option pxV → List pxI → pxG → pxS → Prop} {k0 : Nat} {j0 : Nat} {v1 : Int32} {n : Nat} {s : Int32 × Int32 × pxS} {e : Int32 × pxS} (h : px_it (Qu_drop_L4 k0 j0 v1) n s = some e) (hX0 : pw l (px_R 1) y_Qu_drop c_Qu_drop 4 none 49 [(0, .inr (some (4, k0, j0))), (1, .inl v1), (2, .inl e.1)] [] ids cG e.2 0 0 Rt) : pw l (px_R 1) y_Qu_drop c_Qu_drop 4 none 4 [(0, .inr (some (4, k0, j0))), (1, .inl v1), (2, .inl s.1), (3, .inl s.2.1)] [] ids cG s.2.2 0 0 Rt := by
  refine px_it_rule (f := Qu_drop_L4 k0 j0 v1) (C := fun s => pw l (px_R 1) y_Qu_drop c_Qu_drop 4 none 4 [(0, .inr (some (4, k0, j0))), (1, .inl v1), (2, .inl s.1), (3, .inl s.2.1)] [] ids cG s.2.2 0 0 Rt) (X := fun e => (pw l (px_R 1) y_Qu_drop c_Qu_drop 4 none 49 [(0, .inr (some (4, k0, j0))), (1, .inl v1), (2, .inl e.1)] [] ids cG e.2 0 0 Rt)) ?_ ?_ n s e h hX0
  · intro s s1 hf hC
    exact Qu_drop_n4_l hf (fun s2 hs => by cases hs; exact hC) (fun e he => by cases he)
  · intro s e hf hX
    exact Qu_drop_n4_l hf (fun s2 hs => by cases hs) (fun e1 he => by cases he; exact hX)
def F_Qu_drop (σ : pxS) (k0 : Nat) (j0 : Nat) (v1 : Int32) : Option (pxS) :=
  px_b1 (px_it (Qu_drop_L4 k0 j0 v1) px_N (0, 0, σ)) fun e8 =>
  px_l (px_up e8.2 (4, k0, j0) 1 e8.1) fun σ9 =>
  px_l (px_up σ9 (4, k0, j0) 2 ((σ9 (4, k0, j0) 2) &&& ((1 <<< (v1 &&& 31)) ^^^ (-1)))) fun σ10 =>
  some σ10
set_option maxRecDepth 100000 in
theorem e_Qu_drop {l : Launch} {ids : List pxI} {Rt : Option pxV → List pxI → pxG → pxS → Prop} {σ : pxS} {k0 : Nat} {j0 : Nat} {v1 : Int32} {res : pxS} (h : F_Qu_drop σ k0 j0 v1 = some res) (hR : Rt none ids cG res) : pw l (px_R 1) y_Qu_drop c_Qu_drop 4 none 0 [(0, .inr (some (4, k0, j0))), (1, .inl v1)] [] ids cG σ 0 0 Rt := by
  unfold F_Qu_drop at h
  refine pw_iconst (v := 0) (px_at td_Qu_drop 0 rfl) (by decide) ?_
  refine pw_istore_n (L' := [(2, .inl 0), (0, .inr (some (4, k0, j0))), (1, .inl v1)]) (px_at td_Qu_drop 1 rfl) rfl (by decide) rfl ?_
  refine pw_iconst (v := 0) (px_at td_Qu_drop 2 rfl) (by decide) ?_
  refine pw_istore_n (L' := [(3, .inl 0), (2, .inl 0), (0, .inr (some (4, k0, j0))), (1, .inl v1)]) (px_at td_Qu_drop 3 rfl) rfl (by decide) rfl ?_
  obtain ⟨e8, he8, h⟩ := px_b1_e h
  refine pw_L [(0, .inr (some (4, k0, j0))), (1, .inl v1), (2, .inl 0), (3, .inl 0)] [2, 3, 1, 0] rfl ?_
  refine Qu_drop_L4_l he8 ?_
  refine pw_aload_n 0 (px_at td_Qu_drop 28 rfl) rfl rfl ?_
  refine pw_iload_n 2 (px_at td_Qu_drop 29 rfl) rfl rfl ?_
  obtain ⟨σ9, hσ9, h⟩ := px_l_e h
  refine pw_puti (px_at td_Qu_drop 30 rfl) lw_Qu_15 rfl rfl (pw_s hσ9 ?_)
  refine pw_aload_n 0 (px_at td_Qu_drop 31 rfl) rfl rfl ?_
  refine pw_dup (px_at td_Qu_drop 32 rfl) ?_
  refine pw_getf (v := .inl (σ9 (4, k0, j0) 2)) (px_at td_Qu_drop 33 rfl) lf_Qu_19 rfl rfl rfl ?_
  refine pw_iconst (v := 1) (px_at td_Qu_drop 34 rfl) (by decide) ?_
  refine pw_iload_n 1 (px_at td_Qu_drop 35 rfl) rfl rfl ?_
  refine pw_ishl (px_at td_Qu_drop 36 rfl) ?_
  refine pw_iconst (v := (-1)) (px_at td_Qu_drop 37 rfl) (by decide) ?_
  refine pw_ixor (px_at td_Qu_drop 38 rfl) ?_
  refine pw_iand (px_at td_Qu_drop 39 rfl) ?_
  obtain ⟨σ10, hσ10, h⟩ := px_l_e h
  refine pw_puti (px_at td_Qu_drop 40 rfl) lw_Qu_19 rfl rfl (pw_s hσ10 ?_)
  obtain rfl := Option.some.inj h
  exact pw_vret (px_at td_Qu_drop 41 rfl) rfl (Nat.le_refl 0) (Nat.le_refl 0) hR
theorem k_Qu_drop {l : Launch} {ids : List pxI} {σ : pxS} {k0 : Nat} {j0 : Nat} {v1 : Int32} {res : pxS} (h : F_Qu_drop σ k0 j0 v1 = some res) : pm l y_Qu_drop c_Qu_drop 4 none (px_R 1) [.inr (some (4, k0, j0)), .inl v1] ids cG σ (px_r none ids cG res) :=
  pm_ofF (by decide +kernel) (Nat.le_of_ble_eq_true rfl) (e_Qu_drop h ⟨rfl, rfl, rfl, rfl⟩)
/-! Qu_add -/
def F_Qu_add (σ : pxS) (k0 : Nat) (j0 : Nat) (v1 : Int32) : Option (pxS) :=
  (if 12 ≤ (σ (4, k0, j0) 1) then some σ else (if (((σ (4, k0, j0) 2) >>> (v1 &&& 31)) &&& 1) = 0 then px_gd (σ (4, k0, j0) 1) 12 (px_l (px_up σ (10, k0, j0) (σ (4, k0, j0) 1).toNatClampNeg v1) fun σ2 =>
  px_l (px_up σ2 (4, k0, j0) 1 ((σ2 (4, k0, j0) 1) + 1)) fun σ3 =>
  px_l (px_up σ3 (4, k0, j0) 2 ((σ3 (4, k0, j0) 2) ||| (1 <<< (v1 &&& 31)))) fun σ4 =>
  some σ4) else some σ))
set_option maxRecDepth 100000 in
theorem e_Qu_add {l : Launch} {ids : List pxI} {Rt : Option pxV → List pxI → pxG → pxS → Prop} {σ : pxS} {k0 : Nat} {j0 : Nat} {v1 : Int32} {res : pxS} (h : F_Qu_add σ k0 j0 v1 = some res) (hR : Rt none ids cG res) : pw l (px_R 1) y_Qu_add c_Qu_add 2 none 0 [(0, .inr (some (4, k0, j0))), (1, .inl v1)] [] ids cG σ 0 0 Rt := by
  unfold F_Qu_add at h
  refine pw_aload_n 0 (px_at td_Qu_add 0 rfl) rfl rfl ?_
  refine pw_getf (v := .inl (σ (4, k0, j0) 1)) (px_at td_Qu_add 1 rfl) lf_Qu_15 rfl rfl rfl ?_
  refine pw_bipush (v := 12) (px_at td_Qu_add 2 rfl) (by decide) ?_
  rcases px_ite h with ⟨hc6, h⟩ | ⟨hc6, h⟩
  · refine pw_icmp_ge 52 (px_at td_Qu_add 3 rfl) (by decide) (fun _ => ?_) (fun hn => absurd hc6 hn)
    obtain rfl := Option.some.inj h
    exact pw_vret (px_at td_Qu_add 31 rfl) rfl (Nat.le_refl 0) (Nat.le_refl 0) hR
  · refine pw_icmp_ge 52 (px_at td_Qu_add 3 rfl) (by decide) (fun hn => absurd hn hc6) (fun _ => ?_)
    refine pw_aload_n 0 (px_at td_Qu_add 4 rfl) rfl rfl ?_
    refine pw_getf (v := .inl (σ (4, k0, j0) 2)) (px_at td_Qu_add 5 rfl) lf_Qu_19 rfl rfl rfl ?_
    refine pw_iload_n 1 (px_at td_Qu_add 6 rfl) rfl rfl ?_
    refine pw_ishr (px_at td_Qu_add 7 rfl) ?_
    refine pw_iconst (v := 1) (px_at td_Qu_add 8 rfl) (by decide) ?_
    refine pw_iand (px_at td_Qu_add 9 rfl) ?_
    rcases px_ite h with ⟨hc5, h⟩ | ⟨hc5, h⟩
    · refine pw_if_ne 52 (px_at td_Qu_add 10 rfl) (by decide) (fun hn => absurd hc5 hn) (fun _ => ?_)
      refine pw_aload_n 0 (px_at td_Qu_add 11 rfl) rfl rfl ?_
      refine pw_getf (v := .inr (some (10, k0, j0))) (px_at td_Qu_add 12 rfl) lf_Qu_9 rfl rfl rfl ?_
      refine pw_aload_n 0 (px_at td_Qu_add 13 rfl) rfl rfl ?_
      refine pw_getf (v := .inl (σ (4, k0, j0) 1)) (px_at td_Qu_add 14 rfl) lf_Qu_15 rfl rfl rfl ?_
      refine pw_iload_n 1 (px_at td_Qu_add 15 rfl) rfl rfl ?_
      obtain ⟨hi1, h⟩ := px_gd_e h
      obtain ⟨σ2, hσ2, h⟩ := px_l_e h
      refine pw_ias (px_at td_Qu_add 16 rfl) rfl hi1 rfl hσ2 ?_
      refine pw_aload_n 0 (px_at td_Qu_add 17 rfl) rfl rfl ?_
      refine pw_dup (px_at td_Qu_add 18 rfl) ?_
      refine pw_getf (v := .inl (σ2 (4, k0, j0) 1)) (px_at td_Qu_add 19 rfl) lf_Qu_15 rfl rfl rfl ?_
      refine pw_iconst (v := 1) (px_at td_Qu_add 20 rfl) (by decide) ?_
      refine pw_iadd (px_at td_Qu_add 21 rfl) ?_
      obtain ⟨σ3, hσ3, h⟩ := px_l_e h
      refine pw_puti (px_at td_Qu_add 22 rfl) lw_Qu_15 rfl rfl (pw_s hσ3 ?_)
      refine pw_aload_n 0 (px_at td_Qu_add 23 rfl) rfl rfl ?_
      refine pw_dup (px_at td_Qu_add 24 rfl) ?_
      refine pw_getf (v := .inl (σ3 (4, k0, j0) 2)) (px_at td_Qu_add 25 rfl) lf_Qu_19 rfl rfl rfl ?_
      refine pw_iconst (v := 1) (px_at td_Qu_add 26 rfl) (by decide) ?_
      refine pw_iload_n 1 (px_at td_Qu_add 27 rfl) rfl rfl ?_
      refine pw_ishl (px_at td_Qu_add 28 rfl) ?_
      refine pw_ior (px_at td_Qu_add 29 rfl) ?_
      obtain ⟨σ4, hσ4, h⟩ := px_l_e h
      refine pw_puti (px_at td_Qu_add 30 rfl) lw_Qu_19 rfl rfl (pw_s hσ4 ?_)
      obtain rfl := Option.some.inj h
      exact pw_vret (px_at td_Qu_add 31 rfl) rfl (Nat.le_refl 0) (Nat.le_refl 0) hR
    · refine pw_if_ne 52 (px_at td_Qu_add 10 rfl) (by decide) (fun _ => ?_) (fun hn => absurd hn hc5)
      obtain rfl := Option.some.inj h
      exact pw_vret (px_at td_Qu_add 31 rfl) rfl (Nat.le_refl 0) (Nat.le_refl 0) hR
theorem k_Qu_add {l : Launch} {ids : List pxI} {σ : pxS} {k0 : Nat} {j0 : Nat} {v1 : Int32} {res : pxS} (h : F_Qu_add σ k0 j0 v1 = some res) : pm l y_Qu_add c_Qu_add 2 none (px_R 1) [.inr (some (4, k0, j0)), .inl v1] ids cG σ (px_r none ids cG res) :=
  pm_ofF (by decide +kernel) (Nat.le_of_ble_eq_true rfl) (e_Qu_add h ⟨rfl, rfl, rfl, rfl⟩)
/-! Qu_at -/
def Qu_at_n27 (σ : pxS)  : Option (Int32) :=
  some ((-2))
set_option maxRecDepth 100000 in
theorem Qu_at_n27_l {l : Launch} {ids : List pxI} {Rt : Option pxV → List pxI → pxG → pxS → Prop} {σ : pxS}  {res : Int32} (h : Qu_at_n27 σ  = some res) (hR : Rt (some (.inl res)) ids cG σ) : pw l (px_R 1) y_Qu_at c_Qu_at 2 (some .int) 27 [] [] ids cG σ 0 0 Rt := by
  unfold Qu_at_n27 at h
  refine pw_bipush (v := (-2)) (px_at td_Qu_at 14 rfl) (by decide) ?_
  obtain rfl := Option.some.inj h
  exact pw_iret (px_at td_Qu_at 15 rfl) rfl (Nat.le_refl 0) (Nat.le_refl 0) hR
def F_Qu_at (σ : pxS) (k0 : Nat) (j0 : Nat) (v1 : Int32) : Option (Int32) :=
  (if v1 < 0 then Qu_at_n27 σ  else (if (σ (4, k0, j0) 1) ≤ v1 then Qu_at_n27 σ  else (if 12 ≤ v1 then Qu_at_n27 σ  else px_gd v1 12 (some ((σ (10, k0, j0) v1.toNatClampNeg))))))
set_option maxRecDepth 100000 in
theorem e_Qu_at {l : Launch} {ids : List pxI} {Rt : Option pxV → List pxI → pxG → pxS → Prop} {σ : pxS} {k0 : Nat} {j0 : Nat} {v1 : Int32} {res : Int32} (h : F_Qu_at σ k0 j0 v1 = some res) (hR : Rt (some (.inl res)) ids cG σ) : pw l (px_R 1) y_Qu_at c_Qu_at 2 (some .int) 0 [(0, .inr (some (4, k0, j0))), (1, .inl v1)] [] ids cG σ 0 0 Rt := by
  unfold F_Qu_at at h
  refine pw_iload_n 1 (px_at td_Qu_at 0 rfl) rfl rfl ?_
  rcases px_ite h with ⟨hc4, h⟩ | ⟨hc4, h⟩
  · refine pw_if_lt 27 (px_at td_Qu_at 1 rfl) (by decide) (fun _ => ?_) (fun hn => absurd hc4 hn)
    refine pw_L [] [] rfl ?_
    exact Qu_at_n27_l h hR
  · refine pw_if_lt 27 (px_at td_Qu_at 1 rfl) (by decide) (fun hn => absurd hn hc4) (fun _ => ?_)
    refine pw_iload_n 1 (px_at td_Qu_at 2 rfl) rfl rfl ?_
    refine pw_aload_n 0 (px_at td_Qu_at 3 rfl) rfl rfl ?_
    refine pw_getf (v := .inl (σ (4, k0, j0) 1)) (px_at td_Qu_at 4 rfl) lf_Qu_15 rfl rfl rfl ?_
    rcases px_ite h with ⟨hc3, h⟩ | ⟨hc3, h⟩
    · refine pw_icmp_ge 27 (px_at td_Qu_at 5 rfl) (by decide) (fun _ => ?_) (fun hn => absurd hc3 hn)
      refine pw_L [] [] rfl ?_
      exact Qu_at_n27_l h hR
    · refine pw_icmp_ge 27 (px_at td_Qu_at 5 rfl) (by decide) (fun hn => absurd hn hc3) (fun _ => ?_)
      refine pw_iload_n 1 (px_at td_Qu_at 6 rfl) rfl rfl ?_
      refine pw_bipush (v := 12) (px_at td_Qu_at 7 rfl) (by decide) ?_
      rcases px_ite h with ⟨hc2, h⟩ | ⟨hc2, h⟩
      · refine pw_icmp_ge 27 (px_at td_Qu_at 8 rfl) (by decide) (fun _ => ?_) (fun hn => absurd hc2 hn)
        refine pw_L [] [] rfl ?_
        exact Qu_at_n27_l h hR
      · refine pw_icmp_ge 27 (px_at td_Qu_at 8 rfl) (by decide) (fun hn => absurd hn hc2) (fun _ => ?_)
        refine pw_aload_n 0 (px_at td_Qu_at 9 rfl) rfl rfl ?_
        refine pw_getf (v := .inr (some (10, k0, j0))) (px_at td_Qu_at 10 rfl) lf_Qu_9 rfl rfl rfl ?_
        refine pw_iload_n 1 (px_at td_Qu_at 11 rfl) rfl rfl ?_
        obtain ⟨hi1, h⟩ := px_gd_e h
        refine pw_ial (px_at td_Qu_at 12 rfl) rfl hi1 rfl ?_
        refine pw_goto 29 (px_at td_Qu_at 13 rfl) (by decide) ?_
        obtain rfl := Option.some.inj h
        exact pw_iret (px_at td_Qu_at 15 rfl) rfl (Nat.le_refl 0) (Nat.le_refl 0) hR
theorem k_Qu_at {l : Launch} {ids : List pxI} {σ : pxS} {k0 : Nat} {j0 : Nat} {v1 : Int32} {res : Int32} (h : F_Qu_at σ k0 j0 v1 = some res) : pm l y_Qu_at c_Qu_at 2 (some .int) (px_R 1) [.inr (some (4, k0, j0)), .inl v1] ids cG σ (px_r (some (.inl res)) ids cG σ) :=
  pm_ofF (by decide +kernel) (Nat.le_of_ble_eq_true rfl) (e_Qu_at h ⟨rfl, rfl, rfl, rfl⟩)
/-! Qu_holds -/
def F_Qu_holds (σ : pxS) (k0 : Nat) (j0 : Nat) (v1 : Int32) : Option (Int32) :=
  (if (((σ (4, k0, j0) 2) >>> (v1 &&& 31)) &&& 1) = 0 then some (0) else some (1))
set_option maxRecDepth 100000 in
theorem e_Qu_holds {l : Launch} {ids : List pxI} {Rt : Option pxV → List pxI → pxG → pxS → Prop} {σ : pxS} {k0 : Nat} {j0 : Nat} {v1 : Int32} {res : Int32} (h : F_Qu_holds σ k0 j0 v1 = some res) (hR : Rt (some (.inl res)) ids cG σ) : pw l (px_R 1) y_Qu_holds c_Qu_holds 2 (some .boolean) 0 [(0, .inr (some (4, k0, j0))), (1, .inl v1)] [] ids cG σ 0 0 Rt := by
  unfold F_Qu_holds at h
  refine pw_aload_n 0 (px_at td_Qu_holds 0 rfl) rfl rfl ?_
  refine pw_getf (v := .inl (σ (4, k0, j0) 2)) (px_at td_Qu_holds 1 rfl) lf_Qu_19 rfl rfl rfl ?_
  refine pw_iload_n 1 (px_at td_Qu_holds 2 rfl) rfl rfl ?_
  refine pw_ishr (px_at td_Qu_holds 3 rfl) ?_
  refine pw_iconst (v := 1) (px_at td_Qu_holds 4 rfl) (by decide) ?_
  refine pw_iand (px_at td_Qu_holds 5 rfl) ?_
  rcases px_ite h with ⟨hc1, h⟩ | ⟨hc1, h⟩
  · refine pw_if_eq 15 (px_at td_Qu_holds 6 rfl) (by decide) (fun _ => ?_) (fun hn => absurd hc1 hn)
    refine pw_iconst (v := 0) (px_at td_Qu_holds 9 rfl) (by decide) ?_
    obtain rfl := Option.some.inj h
    exact pw_zret (px_at td_Qu_holds 10 rfl) rfl (by decide) (Nat.le_refl 0) (Nat.le_refl 0) hR
  · refine pw_if_eq 15 (px_at td_Qu_holds 6 rfl) (by decide) (fun hn => absurd hn hc1) (fun _ => ?_)
    refine pw_iconst (v := 1) (px_at td_Qu_holds 7 rfl) (by decide) ?_
    refine pw_goto 16 (px_at td_Qu_holds 8 rfl) (by decide) ?_
    obtain rfl := Option.some.inj h
    exact pw_zret (px_at td_Qu_holds 10 rfl) rfl (by decide) (Nat.le_refl 0) (Nat.le_refl 0) hR
theorem k_Qu_holds {l : Launch} {ids : List pxI} {σ : pxS} {k0 : Nat} {j0 : Nat} {v1 : Int32} {res : Int32} (h : F_Qu_holds σ k0 j0 v1 = some res) : pm l y_Qu_holds c_Qu_holds 2 (some .boolean) (px_R 1) [.inr (some (4, k0, j0)), .inl v1] ids cG σ (px_r (some (.inl res)) ids cG σ) :=
  pm_ofF (by decide +kernel) (Nat.le_of_ble_eq_true rfl) (e_Qu_holds h ⟨rfl, rfl, rfl, rfl⟩)
