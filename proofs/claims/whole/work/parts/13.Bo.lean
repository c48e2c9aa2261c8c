/-! Bo_start -/
def Bo_start_n7 (σ : pxS) (k0 : Nat) (v2 : Int32) : Option ((Int32 × pxS) ⊕ (pxS)) :=
  (if 12 ≤ v2 then some (.inr σ) else px_gd v2 12 (px_gd v2 12 (px_gd v2 12 (px_b1 (F_Ra_start σ k0 v2.toNatClampNeg (σ (8, (σ (2, k0, 0) 4).toNatClampNeg, 5) v2.toNatClampNeg) (σ (8, (σ (2, k0, 0) 4).toNatClampNeg, 6) v2.toNatClampNeg)) fun σ5 =>
  some (.inl ((v2 + 1), σ5))))))
set_option maxRecDepth 100000 in
theorem Bo_start_n7_l {l : Launch} {ids : List pxI} {Rt : Option pxV → List pxI → pxG → pxS → Prop} {σ : pxS} {k0 : Nat} {v2 : Int32} {o : (Int32 × pxS) ⊕ (pxS)} (h : Bo_start_n7 σ k0 v2 = some o) (hC : ∀ s, o = .inl s → pw l (px_R 2) y_Bo_start c_Bo_start 3 none 7 [(0, .inr (some (2, k0, 0))), (2, .inl s.1)] [] ids cG s.2 0 0 Rt) (hX0 : ∀ e, o = .inr e → pw l (px_R 2) y_Bo_start c_Bo_start 3 none 46 [(0, .inr (some (2, k0, 0)))] [] ids cG e 0 0 Rt) : pw l (px_R 2) y_Bo_start c_Bo_start 3 none 7 [(0, .inr (some (2, k0, 0))), (2, .inl v2)] [] ids cG σ 0 0 Rt := by
  unfold Bo_start_n7 at h
  refine pw_iload_n 1 (px_at td_Bo_start 5 rfl) rfl rfl ?_
  refine pw_bipush (v := 12) (px_at td_Bo_start 6 rfl) (by decide) ?_
  rcases px_ite h with ⟨hc6, h⟩ | ⟨hc6, h⟩
  · refine pw_icmp_ge 46 (px_at td_Bo_start 7 rfl) (by decide) (fun _ => ?_) (fun hn => absurd hc6 hn)
    refine pw_L [(0, .inr (some (2, k0, 0)))] [0] rfl ?_
    exact hX0 σ (Option.some.inj h).symm
  · refine pw_icmp_ge 46 (px_at td_Bo_start 7 rfl) (by decide) (fun hn => absurd hn hc6) (fun _ => ?_)
    refine pw_aload_n 0 (px_at td_Bo_start 8 rfl) rfl rfl ?_
    refine pw_getf (v := .inr (some (9, k0, 0))) (px_at td_Bo_start 9 rfl) lf_Bo_11 rfl rfl rfl ?_
    refine pw_iload_n 1 (px_at td_Bo_start 10 rfl) rfl rfl ?_
    obtain ⟨hi2, h⟩ := px_gd_e h
    refine pw_aald (r := (3, k0, v2.toNatClampNeg)) (px_at td_Bo_start 11 rfl) rfl (fun _ => rfl) hi2 rfl ?_
    refine pw_aload_n 0 (px_at td_Bo_start 12 rfl) rfl rfl ?_
    refine pw_getf (v := .inr (some (1, (σ (2, k0, 0) 4).toNatClampNeg, 0))) (px_at td_Bo_start 13 rfl) lf_Bo_31 rfl rfl rfl ?_
    refine pw_getf (v := .inr (some (8, (σ (2, k0, 0) 4).toNatClampNeg, 5))) (px_at td_Bo_start 14 rfl) lf_Bo_36 rfl rfl rfl ?_
    refine pw_iload_n 1 (px_at td_Bo_start 15 rfl) rfl rfl ?_
    obtain ⟨hi3, h⟩ := px_gd_e h
    refine pw_ial (px_at td_Bo_start 16 rfl) rfl hi3 rfl ?_
    refine pw_aload_n 0 (px_at td_Bo_start 17 rfl) rfl rfl ?_
    refine pw_getf (v := .inr (some (1, (σ (2, k0, 0) 4).toNatClampNeg, 0))) (px_at td_Bo_start 18 rfl) lf_Bo_31 rfl rfl rfl ?_
    refine pw_getf (v := .inr (some (8, (σ (2, k0, 0) 4).toNatClampNeg, 6))) (px_at td_Bo_start 19 rfl) lf_Bo_41 rfl rfl rfl ?_
    refine pw_iload_n 1 (px_at td_Bo_start 20 rfl) rfl rfl ?_
    obtain ⟨hi4, h⟩ := px_gd_e h
    refine pw_ial (px_at td_Bo_start 21 rfl) rfl hi4 rfl ?_
    obtain ⟨σ5, hk5, h⟩ := px_b1_e h
    refine pw_cV0 (3, k0, v2.toNatClampNeg) [.inl (σ (8, (σ (2, k0, 0) 4).toNatClampNeg, 5) v2.toNatClampNeg), .inl (σ (8, (σ (2, k0, 0) 4).toNatClampNeg, 6) v2.toNatClampNeg)] [] (px_at td_Bo_start 22 rfl) lV_Bo_44 rfl rfl rfl (Nat.le_of_ble_eq_true rfl) (by decide) (k_Ra_start hk5) ?_
    refine pw_iinc (q := 1) (v := (v2 + 1)) (L' := [(2, .inl (v2 + 1)), (0, .inr (some (2, k0, 0)))]) (px_at td_Bo_start 23 rfl) rfl rfl (by decide) rfl ?_
    refine pw_goto 7 (px_at td_Bo_start 24 rfl) (by decide) ?_
    refine pw_L [(0, .inr (some (2, k0, 0))), (2, .inl (v2 + 1))] [1, 0] rfl ?_
    exact hC ((v2 + 1), σ5) (Option.some.inj h).symm
def Bo_start_L7 (k0 : Nat) : (Int32 × pxS) → Option ((Int32 × pxS) ⊕ (pxS)) := fun s => Bo_start_n7 s.2 k0 s.1
set_option maxRecDepth 100000 in
theorem Bo_start_L7_l {l : Launch} {ids : List pxI} {Rt : Option pxV → List pxI → pxG → pxS → Prop} {k0 : Nat} {n : Nat} {s : Int32 × pxS} {e : pxS} (h : px_it (Bo_start_L7 k0) n s = some e) (hX0 : pw l (px_R 2) y_Bo_start c_Bo_start 3 none 46 [(0, .inr (some (2, k0, 0)))] [] ids cG e 0 0 Rt) : pw l (px_R 2) y_Bo_start c_Bo_start 3 none 7 [(0, .inr (some (2, k0, 0))), (2, .inl s.1)] [] ids cG s.2 0 0 Rt := by
  refine px_it_rule (f := Bo_start_L7 k0) (C := fun s => pw l (px_R 2) y_Bo_start c_Bo_start 3 none 7 [(0, .inr (some (2, k0, 0))), (2, .inl s.1)] [] ids cG s.2 0 0 Rt) (X := fun e => (pw l (px_R 2) y_Bo_start c_Bo_start 3 none 46 [(0, .inr (some (2, k0, 0)))] [] ids cG e 0 0 Rt)) ?_ ?_ n s e h hX0
  · intro s s1 hf hC
    exact Bo_start_n7_l hf (fun s2 hs => by cases hs; exact hC) (fun e he => by cases he)
  · intro s e hf hX
    exact Bo_start_n7_l hf (fun s2 hs => by cases hs) (fun e1 he => by cases he; exact hX)
def F_Bo_start (σ : pxS) (k0 : Nat) (p1 : Int32) : Option (pxS) :=
  px_l (px_up σ (2, k0, 0) 4 p1) fun σ1 =>
  px_b1 (px_it (Bo_start_L7 k0) px_N (0, σ1)) fun e7 =>
  px_b1 (F_Qu_forget e7 k0 0) fun σ8 =>
  px_b1 (F_Qu_forget σ8 k0 1) fun σ9 =>
  px_l (px_up σ9 (2, k0, 0) 5 0) fun σ10 =>
  px_l (px_up σ10 (2, k0, 0) 6 0) fun σ11 =>
  px_l (px_up σ11 (2, k0, 0) 7 0) fun σ12 =>
  px_l (px_up σ12 (2, k0, 0) 8 0) fun σ13 =>
  px_l (px_up σ13 (2, k0, 0) 9 0) fun σ14 =>
  px_l (px_up σ14 (2, k0, 0) 10 0) fun σ15 =>
  some σ15
set_option maxRecDepth 100000 in
theorem e_Bo_start {l : Launch} {ids : List pxI} {Rt : Option pxV → List pxI → pxG → pxS → Prop} {σ : pxS} {k0 : Nat} {p1 : Int32} {res : pxS} (h : F_Bo_start σ k0 p1 = some res) (hR : Rt none ids cG res) : pw l (px_R 2) y_Bo_start c_Bo_start 3 none 0 [(0, .inr (some (2, k0, 0))), (1, .inr (some (1, p1.toNatClampNeg, 0)))] [] ids cG σ 0 0 Rt := by
  unfold F_Bo_start at h
  refine pw_aload_n 0 (px_at td_Bo_start 0 rfl) rfl rfl ?_
  refine pw_aload_n 1 (px_at td_Bo_start 1 rfl) rfl rfl ?_
  obtain ⟨σ1, hσ1, h⟩ := px_l_e h
  refine pw_putr p1 (px_at td_Bo_start 2 rfl) lw_Bo_31 rfl rfl (pw_s hσ1 ?_)
  refine pw_iconst (v := 0) (px_at td_Bo_start 3 rfl) (by decide) ?_
  refine pw_istore_n (L' := [(2, .inl 0), (0, .inr (some (2, k0, 0))), (1, .inr (some (1, p1.toNatClampNeg, 0)))]) (px_at td_Bo_start 4 rfl) rfl (by decide) rfl ?_
  obtain ⟨e7, he7, h⟩ := px_b1_e h
  refine pw_L [(0, .inr (some (2, k0, 0))), (2, .inl 0)] [1, 0] rfl ?_
  refine Bo_start_L7_l he7 ?_
  refine pw_aload_n 0 (px_at td_Bo_start 25 rfl) rfl rfl ?_
  refine pw_getf (v := .inr (some (4, k0, 0))) (px_at td_Bo_start 26 rfl) lf_Bo_20 rfl rfl rfl ?_
  obtain ⟨σ8, hk8, h⟩ := px_b1_e h
  refine pw_cV0 (4, k0, 0) [] [] (px_at td_Bo_start 27 rfl) lV_Bo_48 rfl rfl rfl (Nat.le_of_ble_eq_true rfl) (by decide) (k_Qu_forget hk8) ?_
  refine pw_aload_n 0 (px_at td_Bo_start 28 rfl) rfl rfl ?_
  refine pw_getf (v := .inr (some (4, k0, 1))) (px_at td_Bo_start 29 rfl) lf_Bo_24 rfl rfl rfl ?_
  obtain ⟨σ9, hk9, h⟩ := px_b1_e h
  refine pw_cV0 (4, k0, 1) [] [] (px_at td_Bo_start 30 rfl) lV_Bo_48 rfl rfl rfl (Nat.le_of_ble_eq_true rfl) (by decide) (k_Qu_forget hk9) ?_
  refine pw_aload_n 0 (px_at td_Bo_start 31 rfl) rfl rfl ?_
  refine pw_iconst (v := 0) (px_at td_Bo_start 32 rfl) (by decide) ?_
  obtain ⟨σ10, hσ10, h⟩ := px_l_e h
  refine pw_puti (px_at td_Bo_start 33 rfl) lw_Bo_51 rfl rfl (pw_s hσ10 ?_)
  refine pw_aload_n 0 (px_at td_Bo_start 34 rfl) rfl rfl ?_
  refine pw_iconst (v := 0) (px_at td_Bo_start 35 rfl) (by decide) ?_
  obtain ⟨σ11, hσ11, h⟩ := px_l_e h
  refine pw_puti (px_at td_Bo_start 36 rfl) lw_Bo_55 rfl rfl (pw_s hσ11 ?_)
  refine pw_aload_n 0 (px_at td_Bo_start 37 rfl) rfl rfl ?_
  refine pw_iconst (v := 0) (px_at td_Bo_start 38 rfl) (by decide) ?_
  obtain ⟨σ12, hσ12, h⟩ := px_l_e h
  refine pw_puti (px_at td_Bo_start 39 rfl) lw_Bo_58 rfl rfl (pw_s hσ12 ?_)
  refine pw_aload_n 0 (px_at td_Bo_start 40 rfl) rfl rfl ?_
  refine pw_iconst (v := 0) (px_at td_Bo_start 41 rfl) (by decide) ?_
  obtain ⟨σ13, hσ13, h⟩ := px_l_e h
  refine pw_puti (px_at td_Bo_start 42 rfl) lw_Bo_61 rfl rfl (pw_s hσ13 ?_)
  refine pw_aload_n 0 (px_at td_Bo_start 43 rfl) rfl rfl ?_
  refine pw_iconst (v := 0) (px_at td_Bo_start 44 rfl) (by decide) ?_
  obtain ⟨σ14, hσ14, h⟩ := px_l_e h
  refine pw_puti (px_at td_Bo_start 45 rfl) lw_Bo_64 rfl rfl (pw_s hσ14 ?_)
  refine pw_aload_n 0 (px_at td_Bo_start 46 rfl) rfl rfl ?_
  refine pw_iconst (v := 0) (px_at td_Bo_start 47 rfl) (by decide) ?_
  obtain ⟨σ15, hσ15, h⟩ := px_l_e h
  refine pw_puti (px_at td_Bo_start 48 rfl) lw_Bo_67 rfl rfl (pw_s hσ15 ?_)
  obtain rfl := Option.some.inj h
  exact pw_vret (px_at td_Bo_start 49 rfl) rfl (Nat.le_refl 0) (Nat.le_refl 0) hR
theorem k_Bo_start {l : Launch} {ids : List pxI} {σ : pxS} {k0 : Nat} {p1 : Int32} {res : pxS} (h : F_Bo_start σ k0 p1 = some res) : pm l y_Bo_start c_Bo_start 3 none (px_R 2) [.inr (some (2, k0, 0)), .inr (some (1, p1.toNatClampNeg, 0))] ids cG σ (px_r none ids cG res) :=
  pm_ofF (by decide +kernel) (Nat.le_of_ble_eq_true rfl) (e_Bo_start h ⟨rfl, rfl, rfl, rfl⟩)
/-! Bo_copyFrom -/
def Bo_copyFrom_n10 (σ : pxS) (k0 : Nat) (k1 : Nat) (v2 : Int32) : Option ((Int32 × pxS) ⊕ (pxS)) :=
  (if (σ (1, (σ (2, k0, 0) 4).toNatClampNeg, 0) 0) ≤ v2 then some (.inr σ) else px_gd v2 12 (px_gd v2 12 (px_b1 (F_Ra_copyFrom σ k0 v2.toNatClampNeg k1 v2.toNatClampNeg) fun σ4 =>
  some (.inl ((v2 + 1), σ4)))))
set_option maxRecDepth 100000 in
theorem Bo_copyFrom_n10_l {l : Launch} {ids : List pxI} {Rt : Option pxV → List pxI → pxG → pxS → Prop} {σ : pxS} {k0 : Nat} {k1 : Nat} {v2 : Int32} {o : (Int32 × pxS) ⊕ (pxS)} (h : Bo_copyFrom_n10 σ k0 k1 v2 = some o) (hC : ∀ s, o = .inl s → pw l (px_R 2) y_Bo_copyFrom c_Bo_copyFrom 3 none 10 [(0, .inr (some (2, k0, 0))), (1, .inr (some (2, k1, 0))), (2, .inl s.1)] [] ids cG s.2 0 0 Rt) (hX0 : ∀ e, o = .inr e → pw l (px_R 2) y_Bo_copyFrom c_Bo_copyFrom 3 none 42 [(0, .inr (some (2, k0, 0))), (1, .inr (some (2, k1, 0)))] [] ids cG e 0 0 Rt) : pw l (px_R 2) y_Bo_copyFrom c_Bo_copyFrom 3 none 10 [(0, .inr (some (2, k0, 0))), (1, .inr (some (2, k1, 0))), (2, .inl v2)] [] ids cG σ 0 0 Rt := by
  unfold Bo_copyFrom_n10 at h
  refine pw_iload_n 2 (px_at td_Bo_copyFrom 6 rfl) rfl rfl ?_
  refine pw_aload_n 0 (px_at td_Bo_copyFrom 7 rfl) rfl rfl ?_
  refine pw_getf (v := .inr (some (1, (σ (2, k0, 0) 4).toNatClampNeg, 0))) (px_at td_Bo_copyFrom 8 rfl) lf_Bo_31 rfl rfl rfl ?_
  refine pw_getf (v := .inl (σ (1, (σ (2, k0, 0) 4).toNatClampNeg, 0) 0)) (px_at td_Bo_copyFrom 9 rfl) lf_Bo_70 rfl rfl rfl ?_
  rcases px_ite h with ⟨hc5, h⟩ | ⟨hc5, h⟩
  · refine pw_icmp_ge 42 (px_at td_Bo_copyFrom 10 rfl) (by decide) (fun _ => ?_) (fun hn => absurd hc5 hn)
    refine pw_L [(0, .inr (some (2, k0, 0))), (1, .inr (some (2, k1, 0)))] [0, 1] rfl ?_
    exact hX0 σ (Option.some.inj h).symm
  · refine pw_icmp_ge 42 (px_at td_Bo_copyFrom 10 rfl) (by decide) (fun hn => absurd hn hc5) (fun _ => ?_)
    refine pw_aload_n 0 (px_at td_Bo_copyFrom 11 rfl) rfl rfl ?_
    refine pw_getf (v := .inr (some (9, k0, 0))) (px_at td_Bo_copyFrom 12 rfl) lf_Bo_11 rfl rfl rfl ?_
    refine pw_iload_n 2 (px_at td_Bo_copyFrom 13 rfl) rfl rfl ?_
    obtain ⟨hi2, h⟩ := px_gd_e h
    refine pw_aald (r := (3, k0, v2.toNatClampNeg)) (px_at td_Bo_copyFrom 14 rfl) rfl (fun _ => rfl) hi2 rfl ?_
    refine pw_aload_n 1 (px_at td_Bo_copyFrom 15 rfl) rfl rfl ?_
    refine pw_getf (v := .inr (some (9, k1, 0))) (px_at td_Bo_copyFrom 16 rfl) lf_Bo_11 rfl rfl rfl ?_
    refine pw_iload_n 2 (px_at td_Bo_copyFrom 17 rfl) rfl rfl ?_
    obtain ⟨hi3, h⟩ := px_gd_e h
    refine pw_aald (r := (3, k1, v2.toNatClampNeg)) (px_at td_Bo_copyFrom 18 rfl) rfl (fun _ => rfl) hi3 rfl ?_
    obtain ⟨σ4, hk4, h⟩ := px_b1_e h
    refine pw_cV0 (3, k0, v2.toNatClampNeg) [.inr (some (3, k1, v2.toNatClampNeg))] [] (px_at td_Bo_copyFrom 19 rfl) lV_Bo_72 rfl rfl rfl (Nat.le_of_ble_eq_true rfl) (by decide) (k_Ra_copyFrom hk4) ?_
    refine pw_iinc (q := 2) (v := (v2 + 1)) (L' := [(2, .inl (v2 + 1)), (0, .inr (some (2, k0, 0))), (1, .inr (some (2, k1, 0)))]) (px_at td_Bo_copyFrom 20 rfl) rfl rfl (by decide) rfl ?_
    refine pw_goto 10 (px_at td_Bo_copyFrom 21 rfl) (by decide) ?_
    refine pw_L [(0, .inr (some (2, k0, 0))), (1, .inr (some (2, k1, 0))), (2, .inl (v2 + 1))] [1, 2, 0] rfl ?_
    exact hC ((v2 + 1), σ4) (Option.some.inj h).symm
def Bo_copyFrom_L10 (k0 : Nat) (k1 : Nat) : (Int32 × pxS) → Option ((Int32 × pxS) ⊕ (pxS)) := fun s => Bo_copyFrom_n10 s.2 k0 k1 s.1
set_option maxRecDepth 100000 in
theorem Bo_copyFrom_L10_l {l : Launch} {ids : List pxI} {Rt : Option pxV → List pxI → pxG → pxS → Prop} {k0 : Nat} {k1 : Nat} {n : Nat} {s : Int32 × pxS} {e : pxS} (h : px_it (Bo_copyFrom_L10 k0 k1) n s = some e) (hX0 : pw l (px_R 2) y_Bo_copyFrom c_Bo_copyFrom 3 none 42 [(0, .inr (some (2, k0, 0))), (1, .inr (some (2, k1, 0)))] [] ids cG e 0 0 Rt) : pw l (px_R 2) y_Bo_copyFrom c_Bo_copyFrom 3 none 10 [(0, .inr (some (2, k0, 0))), (1, .inr (some (2, k1, 0))), (2, .inl s.1)] [] ids cG s.2 0 0 Rt := by
  refine px_it_rule (f := Bo_copyFrom_L10 k0 k1) (C := fun s => pw l (px_R 2) y_Bo_copyFrom c_Bo_copyFrom 3 none 10 [(0, .inr (some (2, k0, 0))), (1, .inr (some (2, k1, 0))), (2, .inl s.1)] [] ids cG s.2 0 0 Rt) (X := fun e => (pw l (px_R 2) y_Bo_copyFrom c_Bo_copyFrom 3 none 42 [(0, .inr (some (2, k0, 0))), (1, .inr (some (2, k1, 0)))] [] ids cG e 0 0 Rt)) ?_ ?_ n s e h hX0
  · intro s s1 hf hC
    exact Bo_copyFrom_n10_l hf (fun s2 hs => by cases hs; exact hC) (fun e he => by cases he)
  · intro s e hf hX
    exact Bo_copyFrom_n10_l hf (fun s2 hs => by cases hs) (fun e1 he => by cases he; exact hX)
def F_Bo_copyFrom (σ : pxS) (k0 : Nat) (k1 : Nat) : Option (pxS) :=
  px_l (px_up σ (2, k0, 0) 4 (σ (2, k1, 0) 4)) fun σ1 =>
  px_b1 (px_it (Bo_copyFrom_L10 k0 k1) px_N (0, σ1)) fun e6 =>
  px_b1 (F_Qu_copyFrom e6 k0 0 k1 0) fun σ7 =>
  px_b1 (F_Qu_copyFrom σ7 k0 1 k1 1) fun σ8 =>
  px_l (px_cp σ8 (11, k1, 0) (11, k0, 0) 40) fun σ9 =>
  px_l (px_up σ9 (2, k0, 0) 5 (σ9 (2, k1, 0) 5)) fun σ10 =>
  px_l (px_up σ10 (2, k0, 0) 6 (σ10 (2, k1, 0) 6)) fun σ11 =>
  px_l (px_up σ11 (2, k0, 0) 7 (σ11 (2, k1, 0) 7)) fun σ12 =>
  px_l (px_up σ12 (2, k0, 0) 8 (σ12 (2, k1, 0) 8)) fun σ13 =>
  px_l (px_up σ13 (2, k0, 0) 9 (σ13 (2, k1, 0) 9)) fun σ14 =>
  px_l (px_up σ14 (2, k0, 0) 10 (σ14 (2, k1, 0) 10)) fun σ15 =>
  some σ15
set_option maxRecDepth 100000 in
theorem e_Bo_copyFrom {l : Launch} {ids : List pxI} {Rt : Option pxV → List pxI → pxG → pxS → Prop} {σ : pxS} {k0 : Nat} {k1 : Nat} {res : pxS} (h : F_Bo_copyFrom σ k0 k1 = some res) (hR : Rt none ids cG res) : pw l (px_R 2) y_Bo_copyFrom c_Bo_copyFrom 3 none 0 [(0, .inr (some (2, k0, 0))), (1, .inr (some (2, k1, 0)))] [] ids cG σ 0 0 Rt := by
  unfold F_Bo_copyFrom at h
  refine pw_aload_n 0 (px_at td_Bo_copyFrom 0 rfl) rfl rfl ?_
  refine pw_aload_n 1 (px_at td_Bo_copyFrom 1 rfl) rfl rfl ?_
  refine pw_getf (v := .inr (some (1, (σ (2, k1, 0) 4).toNatClampNeg, 0))) (px_at td_Bo_copyFrom 2 rfl) lf_Bo_31 rfl rfl rfl ?_
  obtain ⟨σ1, hσ1, h⟩ := px_l_e h
  refine pw_putr (σ (2, k1, 0) 4) (px_at td_Bo_copyFrom 3 rfl) lw_Bo_31 rfl rfl (pw_s hσ1 ?_)
  refine pw_iconst (v := 0) (px_at td_Bo_copyFrom 4 rfl) (by decide) ?_
  refine pw_istore_n (L' := [(2, .inl 0), (0, .inr (some (2, k0, 0))), (1, .inr (some (2, k1, 0)))]) (px_at td_Bo_copyFrom 5 rfl) rfl (by decide) rfl ?_
  obtain ⟨e6, he6, h⟩ := px_b1_e h
  refine pw_L [(0, .inr (some (2, k0, 0))), (1, .inr (some (2, k1, 0))), (2, .inl 0)] [1, 2, 0] rfl ?_
  refine Bo_copyFrom_L10_l he6 ?_
  refine pw_aload_n 0 (px_at td_Bo_copyFrom 22 rfl) rfl rfl ?_
  refine pw_getf (v := .inr (some (4, k0, 0))) (px_at td_Bo_copyFrom 23 rfl) lf_Bo_20 rfl rfl rfl ?_
  refine pw_aload_n 1 (px_at td_Bo_copyFrom 24 rfl) rfl rfl ?_
  refine pw_getf (v := .inr (some (4, k1, 0))) (px_at td_Bo_copyFrom 25 rfl) lf_Bo_20 rfl rfl rfl ?_
  obtain ⟨σ7, hk7, h⟩ := px_b1_e h
  refine pw_cV0 (4, k0, 0) [.inr (some (4, k1, 0))] [] (px_at td_Bo_copyFrom 26 rfl) lV_Bo_76 rfl rfl rfl (Nat.le_of_ble_eq_true rfl) (by decide) (k_Qu_copyFrom hk7) ?_
  refine pw_aload_n 0 (px_at td_Bo_copyFrom 27 rfl) rfl rfl ?_
  refine pw_getf (v := .inr (some (4, k0, 1))) (px_at td_Bo_copyFrom 28 rfl) lf_Bo_24 rfl rfl rfl ?_
  refine pw_aload_n 1 (px_at td_Bo_copyFrom 29 rfl) rfl rfl ?_
  refine pw_getf (v := .inr (some (4, k1, 1))) (px_at td_Bo_copyFrom 30 rfl) lf_Bo_24 rfl rfl rfl ?_
  obtain ⟨σ8, hk8, h⟩ := px_b1_e h
  refine pw_cV0 (4, k0, 1) [.inr (some (4, k1, 1))] [] (px_at td_Bo_copyFrom 31 rfl) lV_Bo_76 rfl rfl rfl (Nat.le_of_ble_eq_true rfl) (by decide) (k_Qu_copyFrom hk8) ?_
  refine pw_aload_n 1 (px_at td_Bo_copyFrom 32 rfl) rfl rfl ?_
  refine pw_getf (v := .inr (some (11, k1, 0))) (px_at td_Bo_copyFrom 33 rfl) lf_Bo_27 rfl rfl rfl ?_
  refine pw_iconst (v := 0) (px_at td_Bo_copyFrom 34 rfl) (by decide) ?_
  refine pw_aload_n 0 (px_at td_Bo_copyFrom 35 rfl) rfl rfl ?_
  refine pw_getf (v := .inr (some (11, k0, 0))) (px_at td_Bo_copyFrom 36 rfl) lf_Bo_27 rfl rfl rfl ?_
  refine pw_iconst (v := 0) (px_at td_Bo_copyFrom 37 rfl) (by decide) ?_
  refine pw_bipush (v := 40) (px_at td_Bo_copyFrom 38 rfl) (by decide) ?_
  obtain ⟨σ9, hσ9, h⟩ := px_l_e h
  refine pw_copyi (px_at td_Bo_copyFrom 39 rfl) lm_Bo_79 wn_System_arraycopy ws_System_arraycopy wi_java_lang_System rfl rfl px_z40 (by decide) (by decide) (by decide) (by decide) (Nat.le_of_ble_eq_true rfl) (pw_s hσ9 ?_)
  refine pw_aload_n 0 (px_at td_Bo_copyFrom 40 rfl) rfl rfl ?_
  refine pw_aload_n 1 (px_at td_Bo_copyFrom 41 rfl) rfl rfl ?_
  refine pw_getf (v := .inl (σ9 (2, k1, 0) 5)) (px_at td_Bo_copyFrom 42 rfl) lf_Bo_51 rfl rfl rfl ?_
  obtain ⟨σ10, hσ10, h⟩ := px_l_e h
  refine pw_puti (px_at td_Bo_copyFrom 43 rfl) lw_Bo_51 rfl rfl (pw_s hσ10 ?_)
  refine pw_aload_n 0 (px_at td_Bo_copyFrom 44 rfl) rfl rfl ?_
  refine pw_aload_n 1 (px_at td_Bo_copyFrom 45 rfl) rfl rfl ?_
  refine pw_getf (v := .inl (σ10 (2, k1, 0) 6)) (px_at td_Bo_copyFrom 46 rfl) lf_Bo_55 rfl rfl rfl ?_
  obtain ⟨σ11, hσ11, h⟩ := px_l_e h
  refine pw_puti (px_at td_Bo_copyFrom 47 rfl) lw_Bo_55 rfl rfl (pw_s hσ11 ?_)
  refine pw_aload_n 0 (px_at td_Bo_copyFrom 48 rfl) rfl rfl ?_
  refine pw_aload_n 1 (px_at td_Bo_copyFrom 49 rfl) rfl rfl ?_
  refine pw_getf (v := .inl (σ11 (2, k1, 0) 7)) (px_at td_Bo_copyFrom 50 rfl) lf_Bo_58 rfl rfl rfl ?_
  obtain ⟨σ12, hσ12, h⟩ := px_l_e h
  refine pw_puti (px_at td_Bo_copyFrom 51 rfl) lw_Bo_58 rfl rfl (pw_s hσ12 ?_)
  refine pw_aload_n 0 (px_at td_Bo_copyFrom 52 rfl) rfl rfl ?_
  refine pw_aload_n 1 (px_at td_Bo_copyFrom 53 rfl) rfl rfl ?_
  refine pw_getf (v := .inl (σ12 (2, k1, 0) 8)) (px_at td_Bo_copyFrom 54 rfl) lf_Bo_61 rfl rfl rfl ?_
  obtain ⟨σ13, hσ13, h⟩ := px_l_e h
  refine pw_puti (px_at td_Bo_copyFrom 55 rfl) lw_Bo_61 rfl rfl (pw_s hσ13 ?_)
  refine pw_aload_n 0 (px_at td_Bo_copyFrom 56 rfl) rfl rfl ?_
  refine pw_aload_n 1 (px_at td_Bo_copyFrom 57 rfl) rfl rfl ?_
  refine pw_getf (v := .inl (σ13 (2, k1, 0) 9)) (px_at td_Bo_copyFrom 58 rfl) lf_Bo_64 rfl rfl rfl ?_
  obtain ⟨σ14, hσ14, h⟩ := px_l_e h
  refine pw_puti (px_at td_Bo_copyFrom 59 rfl) lw_Bo_64 rfl rfl (pw_s hσ14 ?_)
  refine pw_aload_n 0 (px_at td_Bo_copyFrom 60 rfl) rfl rfl ?_
  refine pw_aload_n 1 (px_at td_Bo_copyFrom 61 rfl) rfl rfl ?_
  refine pw_getf (v := .inl (σ14 (2, k1, 0) 10)) (px_at td_Bo_copyFrom 62 rfl) lf_Bo_67 rfl rfl rfl ?_
  obtain ⟨σ15, hσ15, h⟩ := px_l_e h
  refine pw_puti (px_at td_Bo_copyFrom 63 rfl) lw_Bo_67 rfl rfl (pw_s hσ15 ?_)
  obtain rfl := Option.some.inj h
  exact pw_vret (px_at td_Bo_copyFrom 64 rfl) rfl (Nat.le_refl 0) (Nat.le_refl 0) hR
theorem k_Bo_copyFrom {l : Launch} {ids : List pxI} {σ : pxS} {k0 : Nat} {k1 : Nat} {res : pxS} (h : F_Bo_copyFrom σ k0 k1 = some res) : pm l y_Bo_copyFrom c_Bo_copyFrom 3 none (px_R 2) [.inr (some (2, k0, 0)), .inr (some (2, k1, 0))] ids cG σ (px_r none ids cG res) :=
  pm_ofF (by decide +kernel) (Nat.le_of_ble_eq_true rfl) (e_Bo_copyFrom h ⟨rfl, rfl, rfl, rfl⟩)
/-! Bo_isGood -/
def Bo_isGood_n51 (σ : pxS)  : Option (Int32) :=
  some (0)
set_option maxRecDepth 100000 in
theorem Bo_isGood_n51_l {l : Launch} {ids : List pxI} {Rt : Option pxV → List pxI → pxG → pxS → Prop} {σ : pxS}  {res : Int32} (h : Bo_isGood_n51 σ  = some res) (hR : Rt (some (.inl res)) ids cG σ) : pw l (px_R 1) y_Bo_isGood c_Bo_isGood 2 (some .boolean) 51 [] [] ids cG σ 0 0 Rt := by
  unfold Bo_isGood_n51 at h
  refine pw_iconst (v := 0) (px_at td_Bo_isGood 28 rfl) (by decide) ?_
  obtain rfl := Option.some.inj h
  exact pw_zret (px_at td_Bo_isGood 29 rfl) rfl (by decide) (Nat.le_refl 0) (Nat.le_refl 0) hR
def F_Bo_isGood (σ : pxS) (k0 : Nat) (v1 : Int32) : Option (Int32) :=
  px_gd v1 12 ((if (σ (3, k0, v1.toNatClampNeg) 2) = 3 then px_gd v1 12 (px_gd v1 12 ((if ((σ (3, k0, v1.toNatClampNeg) 3) * 100) < ((σ (8, (σ (2, k0, 0) 4).toNatClampNeg, 2) v1.toNatClampNeg) * (σ (8, (σ (2, k0, 0) 4).toNatClampNeg, 14) 2)) then Bo_isGood_n51 σ  else some (1)))) else Bo_isGood_n51 σ ))
set_option maxRecDepth 100000 in
theorem e_Bo_isGood {l : Launch} {ids : List pxI} {Rt : Option pxV → List pxI → pxG → pxS → Prop} {σ : pxS} {k0 : Nat} {v1 : Int32} {res : Int32} (h : F_Bo_isGood σ k0 v1 = some res) (hR : Rt (some (.inl res)) ids cG σ) : pw l (px_R 1) y_Bo_isGood c_Bo_isGood 2 (some .boolean) 0 [(0, .inr (some (2, k0, 0))), (1, .inl v1)] [] ids cG σ 0 0 Rt := by
  unfold F_Bo_isGood at h
  refine pw_aload_n 0 (px_at td_Bo_isGood 0 rfl) rfl rfl ?_
  refine pw_getf (v := .inr (some (9, k0, 0))) (px_at td_Bo_isGood 1 rfl) lf_Bo_11 rfl rfl rfl ?_
  refine pw_iload_n 1 (px_at td_Bo_isGood 2 rfl) rfl rfl ?_
  obtain ⟨hi1, h⟩ := px_gd_e h
  refine pw_aald (r := (3, k0, v1.toNatClampNeg)) (px_at td_Bo_isGood 3 rfl) rfl (fun _ => rfl) hi1 rfl ?_
  refine pw_getf (v := .inl (σ (3, k0, v1.toNatClampNeg) 2)) (px_at td_Bo_isGood 4 rfl) lf_Bo_85 rfl rfl rfl ?_
  refine pw_iconst (v := 3) (px_at td_Bo_isGood 5 rfl) (by decide) ?_
  rcases px_ite h with ⟨hc5, h⟩ | ⟨hc5, h⟩
  · refine pw_icmp_ne 51 (px_at td_Bo_isGood 6 rfl) (by decide) (fun hn => absurd hc5 hn) (fun _ => ?_)
    refine pw_aload_n 0 (px_at td_Bo_isGood 7 rfl) rfl rfl ?_
    refine pw_getf (v := .inr (some (9, k0, 0))) (px_at td_Bo_isGood 8 rfl) lf_Bo_11 rfl rfl rfl ?_
    refine pw_iload_n 1 (px_at td_Bo_isGood 9 rfl) rfl rfl ?_
    obtain ⟨hi2, h⟩ := px_gd_e h
    refine pw_aald (r := (3, k0, v1.toNatClampNeg)) (px_at td_Bo_isGood 10 rfl) rfl (fun _ => rfl) hi2 rfl ?_
    refine pw_getf (v := .inl (σ (3, k0, v1.toNatClampNeg) 3)) (px_at td_Bo_isGood 11 rfl) lf_Bo_88 rfl rfl rfl ?_
    refine pw_bipush (v := 100) (px_at td_Bo_isGood 12 rfl) (by decide) ?_
    refine pw_imul (px_at td_Bo_isGood 13 rfl) ?_
    refine pw_aload_n 0 (px_at td_Bo_isGood 14 rfl) rfl rfl ?_
    refine pw_getf (v := .inr (some (1, (σ (2, k0, 0) 4).toNatClampNeg, 0))) (px_at td_Bo_isGood 15 rfl) lf_Bo_31 rfl rfl rfl ?_
    refine pw_getf (v := .inr (some (8, (σ (2, k0, 0) 4).toNatClampNeg, 2))) (px_at td_Bo_isGood 16 rfl) lf_Bo_91 rfl rfl rfl ?_
    refine pw_iload_n 1 (px_at td_Bo_isGood 17 rfl) rfl rfl ?_
    obtain ⟨hi3, h⟩ := px_gd_e h
    refine pw_ial (px_at td_Bo_isGood 18 rfl) rfl hi3 rfl ?_
    refine pw_aload_n 0 (px_at td_Bo_isGood 19 rfl) rfl rfl ?_
    refine pw_getf (v := .inr (some (1, (σ (2, k0, 0) 4).toNatClampNeg, 0))) (px_at td_Bo_isGood 20 rfl) lf_Bo_31 rfl rfl rfl ?_
    refine pw_getf (v := .inr (some (8, (σ (2, k0, 0) 4).toNatClampNeg, 14))) (px_at td_Bo_isGood 21 rfl) lf_Bo_94 rfl rfl rfl ?_
    refine pw_iconst (v := 2) (px_at td_Bo_isGood 22 rfl) (by decide) ?_
    refine pw_ial (px_at td_Bo_isGood 23 rfl) rfl (px_inL (by decide) px_z2 (by decide)) px_z2 ?_
    refine pw_imul (px_at td_Bo_isGood 24 rfl) ?_
    rcases px_ite h with ⟨hc4, h⟩ | ⟨hc4, h⟩
    · refine pw_icmp_lt 51 (px_at td_Bo_isGood 25 rfl) (by decide) (fun _ => ?_) (fun hn => absurd hc4 hn)
      refine pw_L [] [] rfl ?_
      exact Bo_isGood_n51_l h hR
    · refine pw_icmp_lt 51 (px_at td_Bo_isGood 25 rfl) (by decide) (fun hn => absurd hn hc4) (fun _ => ?_)
      refine pw_iconst (v := 1) (px_at td_Bo_isGood 26 rfl) (by decide) ?_
      refine pw_goto 52 (px_at td_Bo_isGood 27 rfl) (by decide) ?_
      obtain rfl := Option.some.inj h
      exact pw_zret (px_at td_Bo_isGood 29 rfl) rfl (by decide) (Nat.le_refl 0) (Nat.le_refl 0) hR
  · refine pw_icmp_ne 51 (px_at td_Bo_isGood 6 rfl) (by decide) (fun _ => ?_) (fun hn => absurd hn hc5)
    refine pw_L [] [] rfl ?_
    exact Bo_isGood_n51_l h hR
theorem k_Bo_isGood {l : Launch} {ids : List pxI} {σ : pxS} {k0 : Nat} {v1 : Int32} {res : Int32} (h : F_Bo_isGood σ k0 v1 = some res) : pm l y_Bo_isGood c_Bo_isGood 2 (some .boolean) (px_R 1) [.inr (some (2, k0, 0)), .inl v1] ids cG σ (px_r (some (.inl res)) ids cG σ) :=
  pm_ofF (by decide +kernel) (Nat.le_of_ble_eq_true rfl) (e_Bo_isGood h ⟨rfl, rfl, rfl, rfl⟩)
/-! Bo_isOn -/
def Bo_isOn_n26 (σ : pxS)  : Option (Int32) :=
  some (1)
set_option maxRecDepth 100000 in
theorem Bo_isOn_n26_l {l : Launch} {ids : List pxI} {Rt : Option pxV → List pxI → pxG → pxS → Prop} {σ : pxS}  {res : Int32} (h : Bo_isOn_n26 σ  = some res) (hR : Rt (some (.inl res)) ids cG σ) : pw l (px_R 1) y_Bo_isOn c_Bo_isOn 2 (some .boolean) 26 [] [] ids cG σ 0 0 Rt := by
  unfold Bo_isOn_n26 at h
  refine pw_iconst (v := 1) (px_at td_Bo_isOn 14 rfl) (by decide) ?_
  refine pw_goto 31 (px_at td_Bo_isOn 15 rfl) (by decide) ?_
  obtain rfl := Option.some.inj h
  exact pw_zret (px_at td_Bo_isOn 17 rfl) rfl (by decide) (Nat.le_refl 0) (Nat.le_refl 0) hR
def F_Bo_isOn (σ : pxS) (k0 : Nat) (v1 : Int32) : Option (Int32) :=
  px_gd v1 12 ((if (σ (3, k0, v1.toNatClampNeg) 2) = 2 then Bo_isOn_n26 σ  else px_gd v1 12 ((if (σ (3, k0, v1.toNatClampNeg) 2) = 3 then Bo_isOn_n26 σ  else some (0)))))
set_option maxRecDepth 100000 in
theorem e_Bo_isOn {l : Launch} {ids : List pxI} {Rt : Option pxV → List pxI → pxG → pxS → Prop} {σ : pxS} {k0 : Nat} {v1 : Int32} {res : Int32} (h : F_Bo_isOn σ k0 v1 = some res) (hR : Rt (some (.inl res)) ids cG σ) : pw l (px_R 1) y_Bo_isOn c_Bo_isOn 2 (some .boolean) 0 [(0, .inr (some (2, k0, 0))), (1, .inl v1)] [] ids cG σ 0 0 Rt := by
  unfold F_Bo_isOn at h
  refine pw_aload_n 0 (px_at td_Bo_isOn 0 rfl) rfl rfl ?_
  refine pw_getf (v := .inr (some (9, k0, 0))) (px_at td_Bo_isOn 1 rfl) lf_Bo_11 rfl rfl rfl ?_
  refine pw_iload_n 1 (px_at td_Bo_isOn 2 rfl) rfl rfl ?_
  obtain ⟨hi1, h⟩ := px_gd_e h
  refine pw_aald (r := (3, k0, v1.toNatClampNeg)) (px_at td_Bo_isOn 3 rfl) rfl (fun _ => rfl) hi1 rfl ?_
  refine pw_getf (v := .inl (σ (3, k0, v1.toNatClampNeg) 2)) (px_at td_Bo_isOn 4 rfl) lf_Bo_85 rfl rfl rfl ?_
  refine pw_iconst (v := 2) (px_at td_Bo_isOn 5 rfl) (by decide) ?_
  rcases px_ite h with ⟨hc4, h⟩ | ⟨hc4, h⟩
  · refine pw_icmp_eq 26 (px_at td_Bo_isOn 6 rfl) (by decide) (fun _ => ?_) (fun hn => absurd hc4 hn)
    refine pw_L [] [] rfl ?_
    exact Bo_isOn_n26_l h hR
  · refine pw_icmp_eq 26 (px_at td_Bo_isOn 6 rfl) (by decide) (fun hn => absurd hn hc4) (fun _ => ?_)
    refine pw_aload_n 0 (px_at td_Bo_isOn 7 rfl) rfl rfl ?_
    refine pw_getf (v := .inr (some (9, k0, 0))) (px_at td_Bo_isOn 8 rfl) lf_Bo_11 rfl rfl rfl ?_
    refine pw_iload_n 1 (px_at td_Bo_isOn 9 rfl) rfl rfl ?_
    obtain ⟨hi2, h⟩ := px_gd_e h
    refine pw_aald (r := (3, k0, v1.toNatClampNeg)) (px_at td_Bo_isOn 10 rfl) rfl (fun _ => rfl) hi2 rfl ?_
    refine pw_getf (v := .inl (σ (3, k0, v1.toNatClampNeg) 2)) (px_at td_Bo_isOn 11 rfl) lf_Bo_85 rfl rfl rfl ?_
    refine pw_iconst (v := 3) (px_at td_Bo_isOn 12 rfl) (by decide) ?_
    rcases px_ite h with ⟨hc3, h⟩ | ⟨hc3, h⟩
    · refine pw_icmp_ne 30 (px_at td_Bo_isOn 13 rfl) (by decide) (fun hn => absurd hc3 hn) (fun _ => ?_)
      refine pw_L [] [] rfl ?_
      exact Bo_isOn_n26_l h hR
    · refine pw_icmp_ne 30 (px_at td_Bo_isOn 13 rfl) (by decide) (fun _ => ?_) (fun hn => absurd hn hc3)
      refine pw_iconst (v := 0) (px_at td_Bo_isOn 16 rfl) (by decide) ?_
      obtain rfl := Option.some.inj h
      exact pw_zret (px_at td_Bo_isOn 17 rfl) rfl (by decide) (Nat.le_refl 0) (Nat.le_refl 0) hR
theorem k_Bo_isOn {l : Launch} {ids : List pxI} {σ : pxS} {k0 : Nat} {v1 : Int32} {res : Int32} (h : F_Bo_isOn σ k0 v1 = some res) : pm l y_Bo_isOn c_Bo_isOn 2 (some .boolean) (px_R 1) [.inr (some (2, k0, 0)), .inl v1] ids cG σ (px_r (some (.inl res)) ids cG σ) :=
  pm_ofF (by decide +kernel) (Nat.le_of_ble_eq_true rfl) (e_Bo_isOn h ⟨rfl, rfl, rfl, rfl⟩)
/-! Bo_goodRails -/
def Bo_goodRails_n29 (σ : pxS) (k0 : Nat) (v1 : Int32) (v2 : Int32) : Option ((Int32 × Int32) ⊕ (Int32)) :=
  some (.inl (v1, (v2 + 1)))
set_option maxRecDepth 100000 in
theorem Bo_goodRails_n29_l {l : Launch} {ids : List pxI} {Rt : Option pxV → List pxI → pxG → pxS → Prop} {σ : pxS} {k0 : Nat} {v1 : Int32} {v2 : Int32} {o : (Int32 × Int32) ⊕ (Int32)} (h : Bo_goodRails_n29 σ k0 v1 v2 = some o) (hC : ∀ s, o = .inl s → pw l (px_R 2) y_Bo_goodRails c_Bo_goodRails 3 (some .int) 4 [(0, .inr (some (2, k0, 0))), (1, .inl s.1), (2, .inl s.2)] [] ids cG σ 0 0 Rt) (hX0 : ∀ e, o = .inr e → pw l (px_R 2) y_Bo_goodRails c_Bo_goodRails 3 (some .int) 35 [(1, .inl e)] [] ids cG σ 0 0 Rt) : pw l (px_R 2) y_Bo_goodRails c_Bo_goodRails 3 (some .int) 29 [(0, .inr (some (2, k0, 0))), (1, .inl v1), (2, .inl v2)] [] ids cG σ 0 0 Rt := by
  unfold Bo_goodRails_n29 at h
  refine pw_iinc (q := 2) (v := (v2 + 1)) (L' := [(2, .inl (v2 + 1)), (0, .inr (some (2, k0, 0))), (1, .inl v1)]) (px_at td_Bo_goodRails 19 rfl) rfl rfl (by decide) rfl ?_
  refine pw_goto 4 (px_at td_Bo_goodRails 20 rfl) (by decide) ?_
  refine pw_L [(0, .inr (some (2, k0, 0))), (1, .inl v1), (2, .inl (v2 + 1))] [1, 2, 0] rfl ?_
  exact hC (v1, (v2 + 1)) (Option.some.inj h).symm
def Bo_goodRails_n4 (σ : pxS) (k0 : Nat) (v1 : Int32) (v2 : Int32) : Option ((Int32 × Int32) ⊕ (Int32)) :=
  (if (σ (1, (σ (2, k0, 0) 4).toNatClampNeg, 0) 0) ≤ v2 then some (.inr v1) else px_b1 (F_Bo_isGood σ k0 v2) fun r1 =>
  (if r1 = 0 then Bo_goodRails_n29 σ k0 v1 v2 else Bo_goodRails_n29 σ k0 (v1 ||| (1 <<< (v2 &&& 31))) v2))
set_option maxRecDepth 100000 in
theorem Bo_goodRails_n4_l {l : Launch} {ids : List pxI} {Rt : Option pxV → List pxI → pxG → pxS → Prop} {σ : pxS} {k0 : Nat} {v1 : Int32} {v2 : Int32} {o : (Int32 × Int32) ⊕ (Int32)} (h : Bo_goodRails_n4 σ k0 v1 v2 = some o) (hC : ∀ s, o = .inl s → pw l (px_R 2) y_Bo_goodRails c_Bo_goodRails 3 (some .int) 4 [(0, .inr (some (2, k0, 0))), (1, .inl s.1), (2, .inl s.2)] [] ids cG σ 0 0 Rt) (hX0 : ∀ e, o = .inr e → pw l (px_R 2) y_Bo_goodRails c_Bo_goodRails 3 (some .int) 35 [(1, .inl e)] [] ids cG σ 0 0 Rt) : pw l (px_R 2) y_Bo_goodRails c_Bo_goodRails 3 (some .int) 4 [(0, .inr (some (2, k0, 0))), (1, .inl v1), (2, .inl v2)] [] ids cG σ 0 0 Rt := by
  unfold Bo_goodRails_n4 at h
  refine pw_iload_n 2 (px_at td_Bo_goodRails 4 rfl) rfl rfl ?_
  refine pw_aload_n 0 (px_at td_Bo_goodRails 5 rfl) rfl rfl ?_
  refine pw_getf (v := .inr (some (1, (σ (2, k0, 0) 4).toNatClampNeg, 0))) (px_at td_Bo_goodRails 6 rfl) lf_Bo_31 rfl rfl rfl ?_
  refine pw_getf (v := .inl (σ (1, (σ (2, k0, 0) 4).toNatClampNeg, 0) 0)) (px_at td_Bo_goodRails 7 rfl) lf_Bo_70 rfl rfl rfl ?_
  rcases px_ite h with ⟨hc3, h⟩ | ⟨hc3, h⟩
  · refine pw_icmp_ge 35 (px_at td_Bo_goodRails 8 rfl) (by decide) (fun _ => ?_) (fun hn => absurd hc3 hn)
    refine pw_L [(1, .inl v1)] [1] rfl ?_
    exact hX0 v1 (Option.some.inj h).symm
  · refine pw_icmp_ge 35 (px_at td_Bo_goodRails 8 rfl) (by decide) (fun hn => absurd hn hc3) (fun _ => ?_)
    refine pw_aload_n 0 (px_at td_Bo_goodRails 9 rfl) rfl rfl ?_
    refine pw_iload_n 2 (px_at td_Bo_goodRails 10 rfl) rfl rfl ?_
    obtain ⟨r1, hk1, h⟩ := px_b1_e h
    refine pw_cV1 (2, k0, 0) [.inl v2] [] (px_at td_Bo_goodRails 11 rfl) lV_Bo_97 rfl rfl rfl (Nat.le_of_ble_eq_true rfl) (by decide) (k_Bo_isGood hk1) ?_
    rcases px_ite h with ⟨hc2, h⟩ | ⟨hc2, h⟩
    · refine pw_if_eq 29 (px_at td_Bo_goodRails 12 rfl) (by decide) (fun _ => ?_) (fun hn => absurd hc2 hn)
      exact Bo_goodRails_n29_l h hC hX0
    · refine pw_if_eq 29 (px_at td_Bo_goodRails 12 rfl) (by decide) (fun hn => absurd hn hc2) (fun _ => ?_)
      refine pw_iload_n 1 (px_at td_Bo_goodRails 13 rfl) rfl rfl ?_
      refine pw_iconst (v := 1) (px_at td_Bo_goodRails 14 rfl) (by decide) ?_
      refine pw_iload_n 2 (px_at td_Bo_goodRails 15 rfl) rfl rfl ?_
      refine pw_ishl (px_at td_Bo_goodRails 16 rfl) ?_
      refine pw_ior (px_at td_Bo_goodRails 17 rfl) ?_
      refine pw_istore_n (L' := [(1, .inl (v1 ||| (1 <<< (v2 &&& 31)))), (0, .inr (some (2, k0, 0))), (2, .inl v2)]) (px_at td_Bo_goodRails 18 rfl) rfl (by decide) rfl ?_
      refine pw_L [(0, .inr (some (2, k0, 0))), (1, .inl (v1 ||| (1 <<< (v2 &&& 31)))), (2, .inl v2)] [1, 0, 2] rfl ?_
      exact Bo_goodRails_n29_l h hC hX0
def Bo_goodRails_L4 (σ : pxS) (k0 : Nat) : (Int32 × Int32) → Option ((Int32 × Int32) ⊕ (Int32)) := fun s => Bo_goodRails_n4 σ k0 s.1 s.2
set_option maxRecDepth 100000 in
theorem Bo_goodRails_L4_l {l : Launch} {ids : List pxI} {Rt : Option pxV → List pxI → pxG → pxS → Prop} {σ : pxS} {k0 : Nat} {n : Nat} {s : Int32 × Int32} {e : Int32} (h : px_it (Bo_goodRails_L4 σ k0) n s = some e) (hX0 : pw l (px_R 2) y_Bo_goodRails c_Bo_goodRails 3 (some .int) 35 [(1, .inl e)] [] ids cG σ 0 0 Rt) : pw l (px_R 2) y_Bo_goodRails c_Bo_goodRails 3 (some .int) 4 [(0, .inr (some (2, k0, 0))), (1, .inl s.1), (2, .inl s.2)] [] ids cG σ 0 0 Rt := by
  refine px_it_rule (f := Bo_goodRails_L4 σ k0) (C := fun s => pw l (px_R 2) y_Bo_goodRails c_Bo_goodRails 3 (some .int) 4 [(0, .inr (some (2, k0, 0))), (1, .inl s.1), (2, .inl s.2)] [] ids cG σ 0 0 Rt) (X := fun e => (pw l (px_R 2) y_Bo_goodRails c_Bo_goodRails 3 (some .int) 35 [(1, .inl e)] [] ids cG σ 0 0 Rt)) ?_ ?_ n s e h hX0
  · intro s s1 hf hC
    exact Bo_goodRails_n4_l hf (fun s2 hs => by cases hs; exact hC) (fun e he => by cases he)
  · intro s e hf hX
    exact Bo_goodRails_n4_l hf (fun s2 hs => by cases hs) (fun e1 he => by cases he; exact hX)
def F_Bo_goodRails (σ : pxS) (k0 : Nat) : Option (Int32) :=
  px_b1 (px_it (Bo_goodRails_L4 σ k0) px_N (0, 0)) fun e4 =>
  some (e4)
set_option maxRecDepth 100000 in
theorem e_Bo_goodRails {l : Launch} {ids : List pxI} {Rt : Option pxV → List pxI → pxG → pxS → Prop} {σ : pxS} {k0 : Nat} {res : Int32} (h : F_Bo_goodRails σ k0 = some res) (hR : Rt (some (.inl res)) ids cG σ) : pw l (px_R 2) y_Bo_goodRails c_Bo_goodRails 3 (some .int) 0 [(0, .inr (some (2, k0, 0)))] [] ids cG σ 0 0 Rt := by
  unfold F_Bo_goodRails at h
  refine pw_iconst (v := 0) (px_at td_Bo_goodRails 0 rfl) (by decide) ?_
  refine pw_istore_n (L' := [(1, .inl 0), (0, .inr (some (2, k0, 0)))]) (px_at td_Bo_goodRails 1 rfl) rfl (by decide) rfl ?_
  refine pw_iconst (v := 0) (px_at td_Bo_goodRails 2 rfl) (by decide) ?_
  refine pw_istore_n (L' := [(2, .inl 0), (1, .inl 0), (0, .inr (some (2, k0, 0)))]) (px_at td_Bo_goodRails 3 rfl) rfl (by decide) rfl ?_
  obtain ⟨e4, he4, h⟩ := px_b1_e h
  refine pw_L [(0, .inr (some (2, k0, 0))), (1, .inl 0), (2, .inl 0)] [2, 1, 0] rfl ?_
  refine Bo_goodRails_L4_l he4 ?_
  refine pw_iload_n 0 (px_at td_Bo_goodRails 21 rfl) rfl rfl ?_
  obtain rfl := Option.some.inj h
  exact pw_iret (px_at td_Bo_goodRails 22 rfl) rfl (Nat.le_refl 0) (Nat.le_refl 0) hR
theorem k_Bo_goodRails {l : Launch} {ids : List pxI} {σ : pxS} {k0 : Nat} {res : Int32} (h : F_Bo_goodRails σ k0 = some res) : pm l y_Bo_goodRails c_Bo_goodRails 3 (some .int) (px_R 2) [.inr (some (2, k0, 0))] ids cG σ (px_r (some (.inl res)) ids cG σ) :=
  pm_ofF (by decide +kernel) (Nat.le_of_ble_eq_true rfl) (e_Bo_goodRails h ⟨rfl, rfl, rfl, rfl⟩)
/-! Bo_allTrips -/
def Bo_allTrips_n4 (σ : pxS) (k0 : Nat) (v1 : Int32) (v2 : Int32) : Option ((Int32 × Int32) ⊕ (Int32)) :=
  (if (σ (1, (σ (2, k0, 0) 4).toNatClampNeg, 0) 0) ≤ v2 then some (.inr v1) else px_gd v2 12 (some (.inl ((v1 + (σ (3, k0, v2.toNatClampNeg) 9)), (v2 + 1)))))
set_option maxRecDepth 100000 in
theorem Bo_allTrips_n4_l {l : Launch} {ids : List pxI} {Rt : Option pxV → List pxI → pxG → pxS → Prop} {σ : pxS} {k0 : Nat} {v1 : Int32} {v2 : Int32} {o : (Int32 × Int32) ⊕ (Int32)} (h : Bo_allTrips_n4 σ k0 v1 v2 = some o) (hC : ∀ s, o = .inl s → pw l (px_R 1) y_Bo_allTrips c_Bo_allTrips 3 (some .int) 4 [(0, .inr (some (2, k0, 0))), (1, .inl s.1), (2, .inl s.2)] [] ids cG σ 0 0 Rt) (hX0 : ∀ e, o = .inr e → pw l (px_R 1) y_Bo_allTrips c_Bo_allTrips 3 (some .int) 33 [(1, .inl e)] [] ids cG σ 0 0 Rt) : pw l (px_R 1) y_Bo_allTrips c_Bo_allTrips 3 (some .int) 4 [(0, .inr (some (2, k0, 0))), (1, .inl v1), (2, .inl v2)] [] ids cG σ 0 0 Rt := by
  unfold Bo_allTrips_n4 at h
  refine pw_iload_n 2 (px_at td_Bo_allTrips 4 rfl) rfl rfl ?_
  refine pw_aload_n 0 (px_at td_Bo_allTrips 5 rfl) rfl rfl ?_
  refine pw_getf (v := .inr (some (1, (σ (2, k0, 0) 4).toNatClampNeg, 0))) (px_at td_Bo_allTrips 6 rfl) lf_Bo_31 rfl rfl rfl ?_
  refine pw_getf (v := .inl (σ (1, (σ (2, k0, 0) 4).toNatClampNeg, 0) 0)) (px_at td_Bo_allTrips 7 rfl) lf_Bo_70 rfl rfl rfl ?_
  rcases px_ite h with ⟨hc2, h⟩ | ⟨hc2, h⟩
  · refine pw_icmp_ge 33 (px_at td_Bo_allTrips 8 rfl) (by decide) (fun _ => ?_) (fun hn => absurd hc2 hn)
    refine pw_L [(1, .inl v1)] [1] rfl ?_
    exact hX0 v1 (Option.some.inj h).symm
  · refine pw_icmp_ge 33 (px_at td_Bo_allTrips 8 rfl) (by decide) (fun hn => absurd hn hc2) (fun _ => ?_)
    refine pw_iload_n 1 (px_at td_Bo_allTrips 9 rfl) rfl rfl ?_
    refine pw_aload_n 0 (px_at td_Bo_allTrips 10 rfl) rfl rfl ?_
    refine pw_getf (v := .inr (some (9, k0, 0))) (px_at td_Bo_allTrips 11 rfl) lf_Bo_11 rfl rfl rfl ?_
    refine pw_iload_n 2 (px_at td_Bo_allTrips 12 rfl) rfl rfl ?_
    obtain ⟨hi1, h⟩ := px_gd_e h
    refine pw_aald (r := (3, k0, v2.toNatClampNeg)) (px_at td_Bo_allTrips 13 rfl) rfl (fun _ => rfl) hi1 rfl ?_
    refine pw_getf (v := .inl (σ (3, k0, v2.toNatClampNeg) 9)) (px_at td_Bo_allTrips 14 rfl) lf_Bo_101 rfl rfl rfl ?_
    refine pw_iadd (px_at td_Bo_allTrips 15 rfl) ?_
    refine pw_istore_n (L' := [(1, .inl (v1 + (σ (3, k0, v2.toNatClampNeg) 9))), (0, .inr (some (2, k0, 0))), (2, .inl v2)]) (px_at td_Bo_allTrips 16 rfl) rfl (by decide) rfl ?_
    refine pw_iinc (q := 2) (v := (v2 + 1)) (L' := [(2, .inl (v2 + 1)), (1, .inl (v1 + (σ (3, k0, v2.toNatClampNeg) 9))), (0, .inr (some (2, k0, 0)))]) (px_at td_Bo_allTrips 17 rfl) rfl rfl (by decide) rfl ?_
    refine pw_goto 4 (px_at td_Bo_allTrips 18 rfl) (by decide) ?_
    refine pw_L [(0, .inr (some (2, k0, 0))), (1, .inl (v1 + (σ (3, k0, v2.toNatClampNeg) 9))), (2, .inl (v2 + 1))] [2, 1, 0] rfl ?_
    exact hC ((v1 + (σ (3, k0, v2.toNatClampNeg) 9)), (v2 + 1)) (Option.some.inj h).symm
def Bo_allTrips_L4 (σ : pxS) (k0 : Nat) : (Int32 × Int32) → Option ((Int32 × Int32) ⊕ (Int32)) := fun s => Bo_allTrips_n4 σ k0 s.1 s.2
set_option maxRecDepth 100000 in
theorem Bo_allTrips_L4_l {l : Launch} {ids : List pxI} {Rt : Option pxV → List pxI → pxG → pxS → Prop} {σ : pxS} {k0 : Nat} {n : Nat} {s : Int32 × Int32} {e : Int32} (h : px_it (Bo_allTrips_L4 σ k0) n s = some e) (hX0 : pw l (px_R 1) y_Bo_allTrips c_Bo_allTrips 3 (some .int) 33 [(1, .inl e)] [] ids cG σ 0 0 Rt) : pw l (px_R 1) y_Bo_allTrips c_Bo_allTrips 3 (some .int) 4 [(0, .inr (some (2, k0, 0))), (1, .inl s.1), (2, .inl s.2)] [] ids cG σ 0 0 Rt := by
  refine px_it_rule (f := Bo_allTrips_L4 σ k0) (C := fun s => pw l (px_R 1) y_Bo_allTrips c_Bo_allTrips 3 (some .int) 4 [(0, .inr (some (2, k0, 0))), (1, .inl s.1), (2, .inl s.2)] [] ids cG σ 0 0 Rt) (X := fun e => (pw l (px_R 1) y_Bo_allTrips c_Bo_allTrips 3 (some .int) 33 [(1, .inl e)] [] ids cG σ 0 0 Rt)) ?_ ?_ n s e h hX0
  · intro s s1 hf hC
    exact Bo_allTrips_n4_l hf (fun s2 hs => by cases hs; exact hC) (fun e he => by cases he)
  · intro s e hf hX
    exact Bo_allTrips_n4_l hf (fun s2 hs => by cases hs) (fun e1 he => by cases he; exact hX)
def F_Bo_allTrips (σ : pxS) (k0 : Nat) : Option (Int32) :=
  px_b1 (px_it (Bo_allTrips_L4 σ k0) px_N (0, 0)) fun e3 =>
  some (e3)
set_option maxRecDepth 100000 in
theorem e_Bo_allTrips {l : Launch} {ids : List pxI} {Rt : Option pxV → List pxI → pxG → pxS → Prop} {σ : pxS} {k0 : Nat} {res : Int32} (h : F_Bo_allTrips σ k0 = some res) (hR : Rt (some (.inl res)) ids cG σ) : pw l (px_R 1) y_Bo_allTrips c_Bo_allTrips 3 (some .int) 0 [(0, .inr (some (2, k0, 0)))] [] ids cG σ 0 0 Rt := by
  unfold F_Bo_allTrips at h
  refine pw_iconst (v := 0) (px_at td_Bo_allTrips 0 rfl) (by decide) ?_
  refine pw_istore_n (L' := [(1, .inl 0), (0, .inr (some (2, k0, 0)))]) (px_at td_Bo_allTrips 1 rfl) rfl (by decide) rfl ?_
  refine pw_iconst (v := 0) (px_at td_Bo_allTrips 2 rfl) (by decide) ?_
  refine pw_istore_n (L' := [(2, .inl 0), (1, .inl 0), (0, .inr (some (2, k0, 0)))]) (px_at td_Bo_allTrips 3 rfl) rfl (by decide) rfl ?_
  obtain ⟨e3, he3, h⟩ := px_b1_e h
  refine pw_L [(0, .inr (some (2, k0, 0))), (1, .inl 0), (2, .inl 0)] [2, 1, 0] rfl ?_
  refine Bo_allTrips_L4_l he3 ?_
  refine pw_iload_n 0 (px_at td_Bo_allTrips 19 rfl) rfl rfl ?_
  obtain rfl := Option.some.inj h
  exact pw_iret (px_at td_Bo_allTrips 20 rfl) rfl (Nat.le_refl 0) (Nat.le_refl 0) hR
theorem k_Bo_allTrips {l : Launch} {ids : List pxI} {σ : pxS} {k0 : Nat} {res : Int32} (h : F_Bo_allTrips σ k0 = some res) : pm l y_Bo_allTrips c_Bo_allTrips 3 (some .int) (px_R 1) [.inr (some (2, k0, 0))] ids cG σ (px_r (some (.inl res)) ids cG σ) :=
  pm_ofF (by decide +kernel) (Nat.le_of_ble_eq_true rfl) (e_Bo_allTrips h ⟨rfl, rfl, rfl, rfl⟩)
/-! Bo_heldBy -/
def Bo_heldBy_n30 (σ : pxS) (k0 : Nat) (v1 : Int32) (v2 : Int32) : Option (Int32) :=
  px_gd v1 12 ((if ((σ (8, (σ (2, k0, 0) 4).toNatClampNeg, 7) v1.toNatClampNeg) &&& (v2 ^^^ (-1))) = 0 then some (0) else some (2)))
set_option maxRecDepth 100000 in
theorem Bo_heldBy_n30_l {l : Launch} {ids : List pxI} {Rt : Option pxV → List pxI → pxG → pxS → Prop} {σ : pxS} {k0 : Nat} {v1 : Int32} {v2 : Int32} {res : Int32} (h : Bo_heldBy_n30 σ k0 v1 v2 = some res) (hR : Rt (some (.inl res)) ids cG σ) : pw l (px_R 1) y_Bo_heldBy c_Bo_heldBy 3 (some .int) 30 [(0, .inr (some (2, k0, 0))), (1, .inl v1), (2, .inl v2)] [] ids cG σ 0 0 Rt := by
  unfold Bo_heldBy_n30 at h
  refine pw_aload_n 0 (px_at td_Bo_heldBy 18 rfl) rfl rfl ?_
  refine pw_getf (v := .inr (some (1, (σ (2, k0, 0) 4).toNatClampNeg, 0))) (px_at td_Bo_heldBy 19 rfl) lf_Bo_31 rfl rfl rfl ?_
  refine pw_getf (v := .inr (some (8, (σ (2, k0, 0) 4).toNatClampNeg, 7))) (px_at td_Bo_heldBy 20 rfl) lf_Bo_107 rfl rfl rfl ?_
  refine pw_iload_n 1 (px_at td_Bo_heldBy 21 rfl) rfl rfl ?_
  obtain ⟨hi2, h⟩ := px_gd_e h
  refine pw_ial (px_at td_Bo_heldBy 22 rfl) rfl hi2 rfl ?_
  refine pw_iload_n 2 (px_at td_Bo_heldBy 23 rfl) rfl rfl ?_
  refine pw_iconst (v := (-1)) (px_at td_Bo_heldBy 24 rfl) (by decide) ?_
  refine pw_ixor (px_at td_Bo_heldBy 25 rfl) ?_
  refine pw_iand (px_at td_Bo_heldBy 26 rfl) ?_
  rcases px_ite h with ⟨hc3, h⟩ | ⟨hc3, h⟩
  · refine pw_if_eq 50 (px_at td_Bo_heldBy 27 rfl) (by decide) (fun _ => ?_) (fun hn => absurd hc3 hn)
    refine pw_iconst (v := 0) (px_at td_Bo_heldBy 30 rfl) (by decide) ?_
    obtain rfl := Option.some.inj h
    exact pw_iret (px_at td_Bo_heldBy 31 rfl) rfl (Nat.le_refl 0) (Nat.le_refl 0) hR
  · refine pw_if_eq 50 (px_at td_Bo_heldBy 27 rfl) (by decide) (fun hn => absurd hn hc3) (fun _ => ?_)
    refine pw_iconst (v := 2) (px_at td_Bo_heldBy 28 rfl) (by decide) ?_
    refine pw_goto 51 (px_at td_Bo_heldBy 29 rfl) (by decide) ?_
    obtain rfl := Option.some.inj h
    exact pw_iret (px_at td_Bo_heldBy 31 rfl) rfl (Nat.le_refl 0) (Nat.le_refl 0) hR
def F_Bo_heldBy (σ : pxS) (k0 : Nat) (v1 : Int32) (v2 : Int32) : Option (Int32) :=
  px_gd v1 12 ((if (σ (8, (σ (2, k0, 0) 4).toNatClampNeg, 1) v1.toNatClampNeg) < 0 then Bo_heldBy_n30 σ k0 v1 v2 else px_gd v1 12 ((if ((v2 >>> ((σ (8, (σ (2, k0, 0) 4).toNatClampNeg, 1) v1.toNatClampNeg) &&& 31)) &&& 1) = 0 then some (1) else Bo_heldBy_n30 σ k0 v1 v2))))
set_option maxRecDepth 100000 in
theorem e_Bo_heldBy {l : Launch} {ids : List pxI} {Rt : Option pxV → List pxI → pxG → pxS → Prop} {σ : pxS} {k0 : Nat} {v1 : Int32} {v2 : Int32} {res : Int32} (h : F_Bo_heldBy σ k0 v1 v2 = some res) (hR : Rt (some (.inl res)) ids cG σ) : pw l (px_R 1) y_Bo_heldBy c_Bo_heldBy 3 (some .int) 0 [(0, .inr (some (2, k0, 0))), (1, .inl v1), (2, .inl v2)] [] ids cG σ 0 0 Rt := by
  unfold F_Bo_heldBy at h
  refine pw_aload_n 0 (px_at td_Bo_heldBy 0 rfl) rfl rfl ?_
  refine pw_getf (v := .inr (some (1, (σ (2, k0, 0) 4).toNatClampNeg, 0))) (px_at td_Bo_heldBy 1 rfl) lf_Bo_31 rfl rfl rfl ?_
  refine pw_getf (v := .inr (some (8, (σ (2, k0, 0) 4).toNatClampNeg, 1))) (px_at td_Bo_heldBy 2 rfl) lf_Bo_104 rfl rfl rfl ?_
  refine pw_iload_n 1 (px_at td_Bo_heldBy 3 rfl) rfl rfl ?_
  obtain ⟨hi1, h⟩ := px_gd_e h
  refine pw_ial (px_at td_Bo_heldBy 4 rfl) rfl hi1 rfl ?_
  rcases px_ite h with ⟨hc6, h⟩ | ⟨hc6, h⟩
  · refine pw_if_lt 30 (px_at td_Bo_heldBy 5 rfl) (by decide) (fun _ => ?_) (fun hn => absurd hc6 hn)
    exact Bo_heldBy_n30_l h hR
  · refine pw_if_lt 30 (px_at td_Bo_heldBy 5 rfl) (by decide) (fun hn => absurd hn hc6) (fun _ => ?_)
    refine pw_iload_n 2 (px_at td_Bo_heldBy 6 rfl) rfl rfl ?_
    refine pw_aload_n 0 (px_at td_Bo_heldBy 7 rfl) rfl rfl ?_
    refine pw_getf (v := .inr (some (1, (σ (2, k0, 0) 4).toNatClampNeg, 0))) (px_at td_Bo_heldBy 8 rfl) lf_Bo_31 rfl rfl rfl ?_
    refine pw_getf (v := .inr (some (8, (σ (2, k0, 0) 4).toNatClampNeg, 1))) (px_at td_Bo_heldBy 9 rfl) lf_Bo_104 rfl rfl rfl ?_
    refine pw_iload_n 1 (px_at td_Bo_heldBy 10 rfl) rfl rfl ?_
    obtain ⟨hi4, h⟩ := px_gd_e h
    refine pw_ial (px_at td_Bo_heldBy 11 rfl) rfl hi4 rfl ?_
    refine pw_ishr (px_at td_Bo_heldBy 12 rfl) ?_
    refine pw_iconst (v := 1) (px_at td_Bo_heldBy 13 rfl) (by decide) ?_
    refine pw_iand (px_at td_Bo_heldBy 14 rfl) ?_
    rcases px_ite h with ⟨hc5, h⟩ | ⟨hc5, h⟩
    · refine pw_if_ne 30 (px_at td_Bo_heldBy 15 rfl) (by decide) (fun hn => absurd hc5 hn) (fun _ => ?_)
      refine pw_iconst (v := 1) (px_at td_Bo_heldBy 16 rfl) (by decide) ?_
      obtain rfl := Option.some.inj h
      exact pw_iret (px_at td_Bo_heldBy 17 rfl) rfl (Nat.le_refl 0) (Nat.le_refl 0) hR
    · refine pw_if_ne 30 (px_at td_Bo_heldBy 15 rfl) (by decide) (fun _ => ?_) (fun hn => absurd hn hc5)
      exact Bo_heldBy_n30_l h hR
theorem k_Bo_heldBy {l : Launch} {ids : List pxI} {σ : pxS} {k0 : Nat} {v1 : Int32} {v2 : Int32} {res : Int32} (h : F_Bo_heldBy σ k0 v1 v2 = some res) : pm l y_Bo_heldBy c_Bo_heldBy 3 (some .int) (px_R 1) [.inr (some (2, k0, 0)), .inl v1, .inl v2] ids cG σ (px_r (some (.inl res)) ids cG σ) :=
  pm_ofF (by decide +kernel) (Nat.le_of_ble_eq_true rfl) (e_Bo_heldBy h ⟨rfl, rfl, rfl, rfl⟩)
/-! Bo_isQuiet -/
def Bo_isQuiet_n28 (σ : pxS)  : Option (Int32) :=
  some (0)
set_option maxRecDepth 100000 in
theorem Bo_isQuiet_n28_l {l : Launch} {ids : List pxI} {Rt : Option pxV → List pxI → pxG → pxS → Prop} {σ : pxS}  {res : Int32} (h : Bo_isQuiet_n28 σ  = some res) (hR : Rt (some (.inl res)) ids cG σ) : pw l (px_R 1) y_Bo_isQuiet c_Bo_isQuiet 4 (some .boolean) 28 [] [] ids cG σ 0 0 Rt := by
  unfold Bo_isQuiet_n28 at h
  refine pw_iconst (v := 0) (px_at td_Bo_isQuiet 12 rfl) (by decide) ?_
  obtain rfl := Option.some.inj h
  exact pw_zret (px_at td_Bo_isQuiet 13 rfl) rfl (by decide) (Nat.le_refl 0) (Nat.le_refl 0) hR
def Bo_isQuiet_n81 (σ : pxS) (k0 : Nat) (v1 : Int32) (k2 : Nat) (j2 : Nat) : Option ((Int32) ⊕ (Nat)) :=
  (if (σ (3, k2, j2) 11) < 0 then some (.inl (v1 + 1)) else some (.inr 0))
set_option maxRecDepth 100000 in
theorem Bo_isQuiet_n81_l {l : Launch} {ids : List pxI} {Rt : Option pxV → List pxI → pxG → pxS → Prop} {σ : pxS} {k0 : Nat} {v1 : Int32} {k2 : Nat} {j2 : Nat} {o : (Int32) ⊕ (Nat)} (h : Bo_isQuiet_n81 σ k0 v1 k2 j2 = some o) (hC : ∀ s, o = .inl s → pw l (px_R 1) y_Bo_isQuiet c_Bo_isQuiet 4 (some .boolean) 32 [(0, .inr (some (2, k0, 0))), (1, .inl s)] [] ids cG σ 0 0 Rt) (hX0 : ∀ e, o = .inr e → e = 0 → pw l (px_R 1) y_Bo_isQuiet c_Bo_isQuiet 4 (some .boolean) 98 [] [] ids cG σ 0 0 Rt) (hX1 : ∀ e, o = .inr e → e = 1 → pw l (px_R 1) y_Bo_isQuiet c_Bo_isQuiet 4 (some .boolean) 106 [] [] ids cG σ 0 0 Rt) : pw l (px_R 1) y_Bo_isQuiet c_Bo_isQuiet 4 (some .boolean) 81 [(0, .inr (some (2, k0, 0))), (1, .inl v1), (2, .inr (some (3, k2, j2)))] [] ids cG σ 0 0 Rt := by
  unfold Bo_isQuiet_n81 at h
  refine pw_iconst (v := 1) (px_at td_Bo_isQuiet 41 rfl) (by decide) ?_
  refine pw_goto 86 (px_at td_Bo_isQuiet 42 rfl) (by decide) ?_
  refine pw_istore_n (L' := [(3, .inl 1), (0, .inr (some (2, k0, 0))), (1, .inl v1), (2, .inr (some (3, k2, j2)))]) (px_at td_Bo_isQuiet 44 rfl) rfl (by decide) rfl ?_
  refine pw_iload_n 0 (px_at td_Bo_isQuiet 45 rfl) rfl rfl ?_
  refine pw_if_eq 98 (px_at td_Bo_isQuiet 46 rfl) (by decide) (fun hn => absurd hn (by decide)) (fun hn => ?_)
  refine pw_aload_n 3 (px_at td_Bo_isQuiet 47 rfl) rfl rfl ?_
  refine pw_getf (v := .inl (σ (3, k2, j2) 11)) (px_at td_Bo_isQuiet 48 rfl) lf_Bo_113 rfl rfl rfl ?_
  rcases px_ite h with ⟨hc2, h⟩ | ⟨hc2, h⟩
  · refine pw_if_lt 100 (px_at td_Bo_isQuiet 49 rfl) (by decide) (fun _ => ?_) (fun hn => absurd hc2 hn)
    refine pw_iinc (q := 2) (v := (v1 + 1)) (L' := [(1, .inl (v1 + 1)), (3, .inl 1), (0, .inr (some (2, k0, 0))), (2, .inr (some (3, k2, j2)))]) (px_at td_Bo_isQuiet 52 rfl) rfl rfl (by decide) rfl ?_
    refine pw_goto 32 (px_at td_Bo_isQuiet 53 rfl) (by decide) ?_
    refine pw_L [(0, .inr (some (2, k0, 0))), (1, .inl (v1 + 1))] [2, 0] rfl ?_
    exact hC (v1 + 1) (Option.some.inj h).symm
  · refine pw_if_lt 100 (px_at td_Bo_isQuiet 49 rfl) (by decide) (fun hn => absurd hn hc2) (fun _ => ?_)
    refine pw_L [] [] rfl ?_
    exact hX0 0 (Option.some.inj h).symm rfl
def Bo_isQuiet_n85 (σ : pxS) (k0 : Nat) (v1 : Int32) (k2 : Nat) (j2 : Nat) : Option ((Int32) ⊕ (Nat)) :=
  some (.inr 0)
set_option maxRecDepth 100000 in
theorem Bo_isQuiet_n85_l {l : Launch} {ids : List pxI} {Rt : Option pxV → List pxI → pxG → pxS → Prop} {σ : pxS} {k0 : Nat} {v1 : Int32} {k2 : Nat} {j2 : Nat} {o : (Int32) ⊕ (Nat)} (h : Bo_isQuiet_n85 σ k0 v1 k2 j2 = some o) (hC : ∀ s, o = .inl s → pw l (px_R 1) y_Bo_isQuiet c_Bo_isQuiet 4 (some .boolean) 32 [(0, .inr (some (2, k0, 0))), (1, .inl s)] [] ids cG σ 0 0 Rt) (hX0 : ∀ e, o = .inr e → e = 0 → pw l (px_R 1) y_Bo_isQuiet c_Bo_isQuiet 4 (some .boolean) 98 [] [] ids cG σ 0 0 Rt) (hX1 : ∀ e, o = .inr e → e = 1 → pw l (px_R 1) y_Bo_isQuiet c_Bo_isQuiet 4 (some .boolean) 106 [] [] ids cG σ 0 0 Rt) : pw l (px_R 1) y_Bo_isQuiet c_Bo_isQuiet 4 (some .boolean) 85 [(0, .inr (some (2, k0, 0))), (1, .inl v1), (2, .inr (some (3, k2, j2)))] [] ids cG σ 0 0 Rt := by
  unfold Bo_isQuiet_n85 at h
  refine pw_iconst (v := 0) (px_at td_Bo_isQuiet 43 rfl) (by decide) ?_
  refine pw_istore_n (L' := [(3, .inl 0), (0, .inr (some (2, k0, 0))), (1, .inl v1), (2, .inr (some (3, k2, j2)))]) (px_at td_Bo_isQuiet 44 rfl) rfl (by decide) rfl ?_
  refine pw_iload_n 0 (px_at td_Bo_isQuiet 45 rfl) rfl rfl ?_
  refine pw_if_eq 98 (px_at td_Bo_isQuiet 46 rfl) (by decide) (fun hn => ?_) (fun hn => absurd hn (by decide))
  refine pw_L [] [] rfl ?_
  exact hX0 0 (Option.some.inj h).symm rfl
def Bo_isQuiet_n32 (σ : pxS) (k0 : Nat) (v1 : Int32) : Option ((Int32) ⊕ (Nat)) :=
  (if (σ (1, (σ (2, k0, 0) 4).toNatClampNeg, 0) 0) ≤ v1 then some (.inr 1) else px_gd v1 12 ((if (σ (3, k0, v1.toNatClampNeg) 2) = 0 then Bo_isQuiet_n81 σ k0 v1 k0 v1.toNatClampNeg else (if (σ (3, k0, v1.toNatClampNeg) 2) = 3 then px_gd v1 12 ((if (σ (3, k0, v1.toNatClampNeg) 3) < (σ (8, (σ (2, k0, 0) 4).toNatClampNeg, 2) v1.toNatClampNeg) then Bo_isQuiet_n85 σ k0 v1 k0 v1.toNatClampNeg else Bo_isQuiet_n81 σ k0 v1 k0 v1.toNatClampNeg)) else Bo_isQuiet_n85 σ k0 v1 k0 v1.toNatClampNeg))))
set_option maxRecDepth 100000 in
theorem Bo_isQuiet_n32_l {l : Launch} {ids : List pxI} {Rt : Option pxV → List pxI → pxG → pxS → Prop} {σ : pxS} {k0 : Nat} {v1 : Int32} {o : (Int32) ⊕ (Nat)} (h : Bo_isQuiet_n32 σ k0 v1 = some o) (hC : ∀ s, o = .inl s → pw l (px_R 1) y_Bo_isQuiet c_Bo_isQuiet 4 (some .boolean) 32 [(0, .inr (some (2, k0, 0))), (1, .inl s)] [] ids cG σ 0 0 Rt) (hX0 : ∀ e, o = .inr e → e = 0 → pw l (px_R 1) y_Bo_isQuiet c_Bo_isQuiet 4 (some .boolean) 98 [] [] ids cG σ 0 0 Rt) (hX1 : ∀ e, o = .inr e → e = 1 → pw l (px_R 1) y_Bo_isQuiet c_Bo_isQuiet 4 (some .boolean) 106 [] [] ids cG σ 0 0 Rt) : pw l (px_R 1) y_Bo_isQuiet c_Bo_isQuiet 4 (some .boolean) 32 [(0, .inr (some (2, k0, 0))), (1, .inl v1)] [] ids cG σ 0 0 Rt := by
  unfold Bo_isQuiet_n32 at h
  refine pw_iload_n 1 (px_at td_Bo_isQuiet 16 rfl) rfl rfl ?_
  refine pw_aload_n 0 (px_at td_Bo_isQuiet 17 rfl) rfl rfl ?_
  refine pw_getf (v := .inr (some (1, (σ (2, k0, 0) 4).toNatClampNeg, 0))) (px_at td_Bo_isQuiet 18 rfl) lf_Bo_31 rfl rfl rfl ?_
  refine pw_getf (v := .inl (σ (1, (σ (2, k0, 0) 4).toNatClampNeg, 0) 0)) (px_at td_Bo_isQuiet 19 rfl) lf_Bo_70 rfl rfl rfl ?_
  rcases px_ite h with ⟨hc7, h⟩ | ⟨hc7, h⟩
  · refine pw_icmp_ge 106 (px_at td_Bo_isQuiet 20 rfl) (by decide) (fun _ => ?_) (fun hn => absurd hc7 hn)
    refine pw_L [] [] rfl ?_
    exact hX1 1 (Option.some.inj h).symm rfl
  · refine pw_icmp_ge 106 (px_at td_Bo_isQuiet 20 rfl) (by decide) (fun hn => absurd hn hc7) (fun _ => ?_)
    refine pw_aload_n 0 (px_at td_Bo_isQuiet 21 rfl) rfl rfl ?_
    refine pw_getf (v := .inr (some (9, k0, 0))) (px_at td_Bo_isQuiet 22 rfl) lf_Bo_11 rfl rfl rfl ?_
    refine pw_iload_n 1 (px_at td_Bo_isQuiet 23 rfl) rfl rfl ?_
    obtain ⟨hi1, h⟩ := px_gd_e h
    refine pw_aald (r := (3, k0, v1.toNatClampNeg)) (px_at td_Bo_isQuiet 24 rfl) rfl (fun _ => rfl) hi1 rfl ?_
    refine pw_astore_n (L' := [(2, .inr (some (3, k0, v1.toNatClampNeg))), (0, .inr (some (2, k0, 0))), (1, .inl v1)]) (px_at td_Bo_isQuiet 25 rfl) rfl (by decide) rfl ?_
    refine pw_aload_n 0 (px_at td_Bo_isQuiet 26 rfl) rfl rfl ?_
    refine pw_getf (v := .inl (σ (3, k0, v1.toNatClampNeg) 2)) (px_at td_Bo_isQuiet 27 rfl) lf_Bo_85 rfl rfl rfl ?_
    rcases px_ite h with ⟨hc6, h⟩ | ⟨hc6, h⟩
    · refine pw_if_eq 81 (px_at td_Bo_isQuiet 28 rfl) (by decide) (fun _ => ?_) (fun hn => absurd hc6 hn)
      refine pw_L [(0, .inr (some (2, k0, 0))), (1, .inl v1), (2, .inr (some (3, k0, v1.toNatClampNeg)))] [1, 2, 0] rfl ?_
      exact Bo_isQuiet_n81_l h hC hX0 hX1
    · refine pw_if_eq 81 (px_at td_Bo_isQuiet 28 rfl) (by decide) (fun hn => absurd hn hc6) (fun _ => ?_)
      refine pw_aload_n 0 (px_at td_Bo_isQuiet 29 rfl) rfl rfl ?_
      refine pw_getf (v := .inl (σ (3, k0, v1.toNatClampNeg) 2)) (px_at td_Bo_isQuiet 30 rfl) lf_Bo_85 rfl rfl rfl ?_
      refine pw_iconst (v := 3) (px_at td_Bo_isQuiet 31 rfl) (by decide) ?_
      rcases px_ite h with ⟨hc5, h⟩ | ⟨hc5, h⟩
      · refine pw_icmp_ne 85 (px_at td_Bo_isQuiet 32 rfl) (by decide) (fun hn => absurd hc5 hn) (fun _ => ?_)
        refine pw_aload_n 0 (px_at td_Bo_isQuiet 33 rfl) rfl rfl ?_
        refine pw_getf (v := .inl (σ (3, k0, v1.toNatClampNeg) 3)) (px_at td_Bo_isQuiet 34 rfl) lf_Bo_88 rfl rfl rfl ?_
        refine pw_aload_n 1 (px_at td_Bo_isQuiet 35 rfl) rfl rfl ?_
        refine pw_getf (v := .inr (some (1, (σ (2, k0, 0) 4).toNatClampNeg, 0))) (px_at td_Bo_isQuiet 36 rfl) lf_Bo_31 rfl rfl rfl ?_
        refine pw_getf (v := .inr (some (8, (σ (2, k0, 0) 4).toNatClampNeg, 2))) (px_at td_Bo_isQuiet 37 rfl) lf_Bo_91 rfl rfl rfl ?_
        refine pw_iload_n 2 (px_at td_Bo_isQuiet 38 rfl) rfl rfl ?_
        obtain ⟨hi3, h⟩ := px_gd_e h
        refine pw_ial (px_at td_Bo_isQuiet 39 rfl) rfl hi3 rfl ?_
        rcases px_ite h with ⟨hc4, h⟩ | ⟨hc4, h⟩
        · refine pw_icmp_lt 85 (px_at td_Bo_isQuiet 40 rfl) (by decide) (fun _ => ?_) (fun hn => absurd hc4 hn)
          refine pw_L [(0, .inr (some (2, k0, 0))), (1, .inl v1), (2, .inr (some (3, k0, v1.toNatClampNeg)))] [1, 2, 0] rfl ?_
          exact Bo_isQuiet_n85_l h hC hX0 hX1
        · refine pw_icmp_lt 85 (px_at td_Bo_isQuiet 40 rfl) (by decide) (fun hn => absurd hn hc4) (fun _ => ?_)
          refine pw_L [(0, .inr (some (2, k0, 0))), (1, .inl v1), (2, .inr (some (3, k0, v1.toNatClampNeg)))] [1, 2, 0] rfl ?_
          exact Bo_isQuiet_n81_l h hC hX0 hX1
      · refine pw_icmp_ne 85 (px_at td_Bo_isQuiet 32 rfl) (by decide) (fun _ => ?_) (fun hn => absurd hn hc5)
        refine pw_L [(0, .inr (some (2, k0, 0))), (1, .inl v1), (2, .inr (some (3, k0, v1.toNatClampNeg)))] [1, 2, 0] rfl ?_
        exact Bo_isQuiet_n85_l h hC hX0 hX1
def Bo_isQuiet_L32 (σ : pxS) (k0 : Nat) : (Int32) → Option ((Int32) ⊕ (Nat)) := fun s => Bo_isQuiet_n32 σ k0 s
set_option maxRecDepth 100000 in
theorem Bo_isQuiet_L32_l {l : Launch} {ids : List pxI} {Rt : Option pxV → List pxI → pxG → pxS → Prop} {σ : pxS} {k0 : Nat} {n : Nat} {s : Int32} {e : Nat} (h : px_it (Bo_isQuiet_L32 σ k0) n s = some e) (hX0 : e = 0 → pw l (px_R 1) y_Bo_isQuiet c_Bo_isQuiet 4 (some .boolean) 98 [] [] ids cG σ 0 0 Rt) (hX1 : e = 1 → pw l (px_R 1) y_Bo_isQuiet c_Bo_isQuiet 4 (some .boolean) 106 [] [] ids cG σ 0 0 Rt) : pw l (px_R 1) y_Bo_isQuiet c_Bo_isQuiet 4 (some .boolean) 32 [(0, .inr (some (2, k0, 0))), (1, .inl s)] [] ids cG σ 0 0 Rt := by
  refine px_it_rule (f := Bo_isQuiet_L32 σ k0) (C := fun s => pw l (px_R 1) y_Bo_isQuiet c_Bo_isQuiet 4 (some .boolean) 32 [(0, .inr (some (2, k0, 0))), (1, .inl s)] [] ids cG σ 0 0 Rt) (X := fun e => (e = 0 → pw l (px_R 1) y_Bo_isQuiet c_Bo_isQuiet 4 (some .boolean) 98 [] [] ids cG σ 0 0 Rt) ∧ (e = 1 → pw l (px_R 1) y_Bo_isQuiet c_Bo_isQuiet 4 (some .boolean) 106 [] [] ids cG σ 0 0 Rt)) ?_ ?_ n s e h ⟨hX0, hX1⟩
  · intro s s1 hf hC
    exact Bo_isQuiet_n32_l hf (fun s2 hs => by cases hs; exact hC) (fun e he ht => by cases he) (fun e he ht => by cases he)
  · intro s e hf hX
    exact Bo_isQuiet_n32_l hf (fun s2 hs => by cases hs) (fun e1 he ht => by cases he; exact hX.1 ht) (fun e1 he ht => by cases he; exact hX.2 ht)
def F_Bo_isQuiet (σ : pxS) (k0 : Nat) : Option (Int32) :=
  (if 0 < (σ (4, k0, 0) 1) then Bo_isQuiet_n28 σ  else (if 0 < (σ (4, k0, 1) 1) then Bo_isQuiet_n28 σ  else (if (σ (2, k0, 0) 7) = 1 then Bo_isQuiet_n28 σ  else px_b1 (px_it (Bo_isQuiet_L32 σ k0) px_N 0) fun e8 =>
  (if e8 = 0 then some (0) else some (1)))))
set_option maxRecDepth 100000 in
theorem e_Bo_isQuiet {l : Launch} {ids : List pxI} {Rt : Option pxV → List pxI → pxG → pxS → Prop} {σ : pxS} {k0 : Nat} {res : Int32} (h : F_Bo_isQuiet σ k0 = some res) (hR : Rt (some (.inl res)) ids cG σ) : pw l (px_R 1) y_Bo_isQuiet c_Bo_isQuiet 4 (some .boolean) 0 [(0, .inr (some (2, k0, 0)))] [] ids cG σ 0 0 Rt := by
  unfold F_Bo_isQuiet at h
  refine pw_aload_n 0 (px_at td_Bo_isQuiet 0 rfl) rfl rfl ?_
  refine pw_getf (v := .inr (some (4, k0, 0))) (px_at td_Bo_isQuiet 1 rfl) lf_Bo_20 rfl rfl rfl ?_
  refine pw_getf (v := .inl (σ (4, k0, 0) 1)) (px_at td_Bo_isQuiet 2 rfl) lf_Bo_110 rfl rfl rfl ?_
  rcases px_ite h with ⟨hc11, h⟩ | ⟨hc11, h⟩
  · refine pw_if_gt 28 (px_at td_Bo_isQuiet 3 rfl) (by decide) (fun _ => ?_) (fun hn => absurd hc11 hn)
    refine pw_L [] [] rfl ?_
    exact Bo_isQuiet_n28_l h hR
  · refine pw_if_gt 28 (px_at td_Bo_isQuiet 3 rfl) (by decide) (fun hn => absurd hn hc11) (fun _ => ?_)
    refine pw_aload_n 0 (px_at td_Bo_isQuiet 4 rfl) rfl rfl ?_
    refine pw_getf (v := .inr (some (4, k0, 1))) (px_at td_Bo_isQuiet 5 rfl) lf_Bo_24 rfl rfl rfl ?_
    refine pw_getf (v := .inl (σ (4, k0, 1) 1)) (px_at td_Bo_isQuiet 6 rfl) lf_Bo_110 rfl rfl rfl ?_
    rcases px_ite h with ⟨hc10, h⟩ | ⟨hc10, h⟩
    · refine pw_if_gt 28 (px_at td_Bo_isQuiet 7 rfl) (by decide) (fun _ => ?_) (fun hn => absurd hc10 hn)
      refine pw_L [] [] rfl ?_
      exact Bo_isQuiet_n28_l h hR
    · refine pw_if_gt 28 (px_at td_Bo_isQuiet 7 rfl) (by decide) (fun hn => absurd hn hc10) (fun _ => ?_)
      refine pw_aload_n 0 (px_at td_Bo_isQuiet 8 rfl) rfl rfl ?_
      refine pw_getf (v := .inl (σ (2, k0, 0) 7)) (px_at td_Bo_isQuiet 9 rfl) lf_Bo_58 rfl rfl rfl ?_
      refine pw_iconst (v := 1) (px_at td_Bo_isQuiet 10 rfl) (by decide) ?_
      rcases px_ite h with ⟨hc9, h⟩ | ⟨hc9, h⟩
      · refine pw_icmp_ne 30 (px_at td_Bo_isQuiet 11 rfl) (by decide) (fun hn => absurd hc9 hn) (fun _ => ?_)
        refine pw_L [] [] rfl ?_
        exact Bo_isQuiet_n28_l h hR
      · refine pw_icmp_ne 30 (px_at td_Bo_isQuiet 11 rfl) (by decide) (fun _ => ?_) (fun hn => absurd hn hc9)
        refine pw_iconst (v := 0) (px_at td_Bo_isQuiet 14 rfl) (by decide) ?_
        refine pw_istore_n (L' := [(1, .inl 0), (0, .inr (some (2, k0, 0)))]) (px_at td_Bo_isQuiet 15 rfl) rfl (by decide) rfl ?_
        obtain ⟨e8, he8, h⟩ := px_b1_e h
        refine pw_L [(0, .inr (some (2, k0, 0))), (1, .inl 0)] [1, 0] rfl ?_
        refine Bo_isQuiet_L32_l he8 (fun ht0 => ?_) (fun ht1 => ?_)
        · rw [if_pos ht0] at h
          refine pw_iconst (v := 0) (px_at td_Bo_isQuiet 50 rfl) (by decide) ?_
          obtain rfl := Option.some.inj h
          exact pw_zret (px_at td_Bo_isQuiet 51 rfl) rfl (by decide) (Nat.le_refl 0) (Nat.le_refl 0) hR
        · rw [if_neg (by rw [ht1]; decide)] at h
          refine pw_iconst (v := 1) (px_at td_Bo_isQuiet 54 rfl) (by decide) ?_
          obtain rfl := Option.some.inj h
          exact pw_zret (px_at td_Bo_isQuiet 55 rfl) rfl (by decide) (Nat.le_refl 0) (Nat.le_refl 0) hR
theorem k_Bo_isQuiet {l : Launch} {ids : List pxI} {σ : pxS} {k0 : Nat} {res : Int32} (h : F_Bo_isQuiet σ k0 = some res) : pm l y_Bo_isQuiet c_Bo_isQuiet 4 (some .boolean) (px_R 1) [.inr (some (2, k0, 0))] ids cG σ (px_r (some (.inl res)) ids cG σ) :=
  pm_ofF (by decide +kernel) (Nat.le_of_ble_eq_true rfl) (e_Bo_isQuiet h ⟨rfl, rfl, rfl, rfl⟩)
/-! Bo_logKept -/
def F_Bo_logKept (σ : pxS) (k0 : Nat) : Option (Int32) :=
  some ((if 40 < (σ (2, k0, 0) 10) then 40 else (σ (2, k0, 0) 10)))
set_option maxRecDepth 100000 in
theorem e_Bo_logKept {l : Launch} {ids : List pxI} {Rt : Option pxV → List pxI → pxG → pxS → Prop} {σ : pxS} {k0 : Nat} {res : Int32} (h : F_Bo_logKept σ k0 = some res) (hR : Rt (some (.inl res)) ids cG σ) : pw l (px_R 1) y_Bo_logKept c_Bo_logKept 1 (some .int) 0 [(0, .inr (some (2, k0, 0)))] [] ids cG σ 0 0 Rt := by
  unfold F_Bo_logKept at h
  refine pw_aload_n 0 (px_at td_Bo_logKept 0 rfl) rfl rfl ?_
  refine pw_getf (v := .inl (σ (2, k0, 0) 10)) (px_at td_Bo_logKept 1 rfl) lf_Bo_67 rfl rfl rfl ?_
  refine pw_bipush (v := 40) (px_at td_Bo_logKept 2 rfl) (by decide) ?_
  refine pw_mmin (px_at td_Bo_logKept 3 rfl) lm_Bo_116 ws_Math_min wi_java_lang_Math wc_Math_min (by decide) (Nat.le_of_ble_eq_true rfl) (Nat.le_refl 0) (Nat.le_refl 0) ?_
  obtain rfl := Option.some.inj h
  exact pw_iret (px_at td_Bo_logKept 4 rfl) rfl (Nat.le_refl 0) (Nat.le_refl 0) hR
theorem k_Bo_logKept {l : Launch} {ids : List pxI} {σ : pxS} {k0 : Nat} {res : Int32} (h : F_Bo_logKept σ k0 = some res) : pm l y_Bo_logKept c_Bo_logKept 1 (some .int) (px_R 1) [.inr (some (2, k0, 0))] ids cG σ (px_r (some (.inl res)) ids cG σ) :=
  pm_ofF (by decide +kernel) (Nat.le_of_ble_eq_true rfl) (e_Bo_logKept h ⟨rfl, rfl, rfl, rfl⟩)
/-! Bo_logEntry -/
def F_Bo_logEntry (σ : pxS) (k0 : Nat) (v1 : Int32) : Option (Int32) :=
  px_b1 (F_Ma_floorMod σ (((σ (2, k0, 0) 10) - 1) - v1) 40) fun r1 =>
  px_gd r1 40 (some ((σ (11, k0, 0) r1.toNatClampNeg)))
set_option maxRecDepth 100000 in
theorem e_Bo_logEntry {l : Launch} {ids : List pxI} {Rt : Option pxV → List pxI → pxG → pxS → Prop} {σ : pxS} {k0 : Nat} {v1 : Int32} {res : Int32} (h : F_Bo_logEntry σ k0 v1 = some res) (hR : Rt (some (.inl res)) ids cG σ) : pw l (px_R 2) y_Bo_logEntry c_Bo_logEntry 2 (some .int) 0 [(0, .inr (some (2, k0, 0))), (1, .inl v1)] [] ids cG σ 0 0 Rt := by
  unfold F_Bo_logEntry at h
  refine pw_aload_n 0 (px_at td_Bo_logEntry 0 rfl) rfl rfl ?_
  refine pw_getf (v := .inr (some (11, k0, 0))) (px_at td_Bo_logEntry 1 rfl) lf_Bo_27 rfl rfl rfl ?_
  refine pw_aload_n 0 (px_at td_Bo_logEntry 2 rfl) rfl rfl ?_
  refine pw_getf (v := .inl (σ (2, k0, 0) 10)) (px_at td_Bo_logEntry 3 rfl) lf_Bo_67 rfl rfl rfl ?_
  refine pw_iconst (v := 1) (px_at td_Bo_logEntry 4 rfl) (by decide) ?_
  refine pw_isub (px_at td_Bo_logEntry 5 rfl) ?_
  refine pw_iload_n 1 (px_at td_Bo_logEntry 6 rfl) rfl rfl ?_
  refine pw_isub (px_at td_Bo_logEntry 7 rfl) ?_
  refine pw_bipush (v := 40) (px_at td_Bo_logEntry 8 rfl) (by decide) ?_
  obtain ⟨r1, hk1, h⟩ := px_b1_e h
  refine pw_cS1 [.inl (((σ (2, k0, 0) 10) - 1) - v1), .inl 40] [.inr (some (11, k0, 0))] (px_at td_Bo_logEntry 9 rfl) lS_Bo_122 rfl rfl (Nat.le_of_ble_eq_true rfl) (by decide) (k_Ma_floorMod hk1) ?_
  obtain ⟨hi2, h⟩ := px_gd_e h
  refine pw_ial (px_at td_Bo_logEntry 10 rfl) rfl hi2 rfl ?_
  obtain rfl := Option.some.inj h
  exact pw_iret (px_at td_Bo_logEntry 11 rfl) rfl (Nat.le_refl 0) (Nat.le_refl 0) hR
theorem k_Bo_logEntry {l : Launch} {ids : List pxI} {σ : pxS} {k0 : Nat} {v1 : Int32} {res : Int32} (h : F_Bo_logEntry σ k0 v1 = some res) : pm l y_Bo_logEntry c_Bo_logEntry 2 (some .int) (px_R 2) [.inr (some (2, k0, 0)), .inl v1] ids cG σ (px_r (some (.inl res)) ids cG σ) :=
  pm_ofF (by decide +kernel) (Nat.le_of_ble_eq_true rfl) (e_Bo_logEntry h ⟨rfl, rfl, rfl, rfl⟩)
/-! Bo_write -/
def F_Bo_write (σ : pxS) (k0 : Nat) (v1 : Int32) (v2 : Int32) : Option (pxS) :=
  px_b1 (F_Ma_floorMod σ (σ (2, k0, 0) 10) 40) fun r1 =>
  px_gd r1 40 (px_l (px_up σ (11, k0, 0) r1.toNatClampNeg ((((σ (2, k0, 0) 5) <<< (7 &&& 31)) ||| ((v1 - (-2)) <<< (3 &&& 31))) ||| v2)) fun σ3 =>
  px_l (px_up σ3 (2, k0, 0) 10 ((σ3 (2, k0, 0) 10) + 1)) fun σ4 =>
  some σ4)
set_option maxRecDepth 100000 in
theorem e_Bo_write {l : Launch} {ids : List pxI} {Rt : Option pxV → List pxI → pxG → pxS → Prop} {σ : pxS} {k0 : Nat} {v1 : Int32} {v2 : Int32} {res : pxS} (h : F_Bo_write σ k0 v1 v2 = some res) (hR : Rt none ids cG res) : pw l (px_R 2) y_Bo_write c_Bo_write 3 none 0 [(0, .inr (some (2, k0, 0))), (1, .inl v1), (2, .inl v2)] [] ids cG σ 0 0 Rt := by
  unfold F_Bo_write at h
  refine pw_aload_n 0 (px_at td_Bo_write 0 rfl) rfl rfl ?_
  refine pw_getf (v := .inr (some (11, k0, 0))) (px_at td_Bo_write 1 rfl) lf_Bo_27 rfl rfl rfl ?_
  refine pw_aload_n 0 (px_at td_Bo_write 2 rfl) rfl rfl ?_
  refine pw_getf (v := .inl (σ (2, k0, 0) 10)) (px_at td_Bo_write 3 rfl) lf_Bo_67 rfl rfl rfl ?_
  refine pw_bipush (v := 40) (px_at td_Bo_write 4 rfl) (by decide) ?_
  obtain ⟨r1, hk1, h⟩ := px_b1_e h
  refine pw_cS1 [.inl (σ (2, k0, 0) 10), .inl 40] [.inr (some (11, k0, 0))] (px_at td_Bo_write 5 rfl) lS_Bo_122 rfl rfl (Nat.le_of_ble_eq_true rfl) (by decide) (k_Ma_floorMod hk1) ?_
  refine pw_aload_n 0 (px_at td_Bo_write 6 rfl) rfl rfl ?_
  refine pw_getf (v := .inl (σ (2, k0, 0) 5)) (px_at td_Bo_write 7 rfl) lf_Bo_51 rfl rfl rfl ?_
  refine pw_bipush (v := 7) (px_at td_Bo_write 8 rfl) (by decide) ?_
  refine pw_ishl (px_at td_Bo_write 9 rfl) ?_
  refine pw_iload_n 1 (px_at td_Bo_write 10 rfl) rfl rfl ?_
  refine pw_bipush (v := (-2)) (px_at td_Bo_write 11 rfl) (by decide) ?_
  refine pw_isub (px_at td_Bo_write 12 rfl) ?_
  refine pw_iconst (v := 3) (px_at td_Bo_write 13 rfl) (by decide) ?_
  refine pw_ishl (px_at td_Bo_write 14 rfl) ?_
  refine pw_ior (px_at td_Bo_write 15 rfl) ?_
  refine pw_iload_n 2 (px_at td_Bo_write 16 rfl) rfl rfl ?_
  refine pw_ior (px_at td_Bo_write 17 rfl) ?_
  obtain ⟨hi2, h⟩ := px_gd_e h
  obtain ⟨σ3, hσ3, h⟩ := px_l_e h
  refine pw_ias (px_at td_Bo_write 18 rfl) rfl hi2 rfl hσ3 ?_
  refine pw_aload_n 0 (px_at td_Bo_write 19 rfl) rfl rfl ?_
  refine pw_dup (px_at td_Bo_write 20 rfl) ?_
  refine pw_getf (v := .inl (σ3 (2, k0, 0) 10)) (px_at td_Bo_write 21 rfl) lf_Bo_67 rfl rfl rfl ?_
  refine pw_iconst (v := 1) (px_at td_Bo_write 22 rfl) (by decide) ?_
  refine pw_iadd (px_at td_Bo_write 23 rfl) ?_
  obtain ⟨σ4, hσ4, h⟩ := px_l_e h
  refine pw_puti (px_at td_Bo_write 24 rfl) lw_Bo_67 rfl rfl (pw_s hσ4 ?_)
  obtain rfl := Option.some.inj h
  exact pw_vret (px_at td_Bo_write 25 rfl) rfl (Nat.le_refl 0) (Nat.le_refl 0) hR
theorem k_Bo_write {l : Launch} {ids : List pxI} {σ : pxS} {k0 : Nat} {v1 : Int32} {v2 : Int32} {res : pxS} (h : F_Bo_write σ k0 v1 v2 = some res) : pm l y_Bo_write c_Bo_write 3 none (px_R 2) [.inr (some (2, k0, 0)), .inl v1, .inl v2] ids cG σ (px_r none ids cG res) :=
  pm_ofF (by decide +kernel) (Nat.le_of_ble_eq_true rfl) (e_Bo_write h ⟨rfl, rfl, rfl, rfl⟩)
/-! Bo_latestToGo -/
def Bo_latestToGo_n103 (σ : pxS) (k0 : Nat) (v2 : Int32) (v3 : Int32) (v4 : Int32) : Option ((Int32 × Int32) ⊕ (Int32)) :=
  some (.inl (v3, (v4 + 1)))
set_option maxRecDepth 100000 in
theorem Bo_latestToGo_n103_l {l : Launch} {ids : List pxI} {Rt : Option pxV → List pxI → pxG → pxS → Prop} {σ : pxS} {k0 : Nat} {v2 : Int32} {v3 : Int32} {v4 : Int32} {o : (Int32 × Int32) ⊕ (Int32)} (h : Bo_latestToGo_n103 σ k0 v2 v3 v4 = some o) (hC : ∀ s, o = .inl s → pw l (px_R 1) y_Bo_latestToGo c_Bo_latestToGo 7 (some .int) 17 [(0, .inr (some (2, k0, 0))), (2, .inl v2), (3, .inl s.1), (4, .inl s.2)] [] ids cG σ 0 0 Rt) (hX0 : ∀ e, o = .inr e → pw l (px_R 1) y_Bo_latestToGo c_Bo_latestToGo 7 (some .int) 109 [(3, .inl e)] [] ids cG σ 0 0 Rt) : pw l (px_R 1) y_Bo_latestToGo c_Bo_latestToGo 7 (some .int) 103 [(0, .inr (some (2, k0, 0))), (2, .inl v2), (3, .inl v3), (4, .inl v4)] [] ids cG σ 0 0 Rt := by
  unfold Bo_latestToGo_n103 at h
  refine pw_iinc (q := 3) (v := (v4 + 1)) (L' := [(4, .inl (v4 + 1)), (0, .inr (some (2, k0, 0))), (2, .inl v2), (3, .inl v3)]) (px_at td_Bo_latestToGo 56 rfl) rfl rfl (by decide) rfl ?_
  refine pw_goto 17 (px_at td_Bo_latestToGo 57 rfl) (by decide) ?_
  refine pw_L [(0, .inr (some (2, k0, 0))), (2, .inl v2), (3, .inl v3), (4, .inl (v4 + 1))] [1, 2, 3, 0] rfl ?_
  exact hC (v3, (v4 + 1)) (Option.some.inj h).symm
def Bo_latestToGo_n66 (σ : pxS) (k0 : Nat) (v2 : Int32) (v3 : Int32) (v4 : Int32) : Option ((Int32 × Int32) ⊕ (Int32)) :=
  Bo_latestToGo_n103 σ k0 v2 v3 v4
set_option maxRecDepth 100000 in
theorem Bo_latestToGo_n66_l {l : Launch} {ids : List pxI} {Rt : Option pxV → List pxI → pxG → pxS → Prop} {σ : pxS} {k0 : Nat} {v2 : Int32} {v3 : Int32} {v4 : Int32} {o : (Int32 × Int32) ⊕ (Int32)} (h : Bo_latestToGo_n66 σ k0 v2 v3 v4 = some o) (hC : ∀ s, o = .inl s → pw l (px_R 1) y_Bo_latestToGo c_Bo_latestToGo 7 (some .int) 17 [(0, .inr (some (2, k0, 0))), (2, .inl v2), (3, .inl s.1), (4, .inl s.2)] [] ids cG σ 0 0 Rt) (hX0 : ∀ e, o = .inr e → pw l (px_R 1) y_Bo_latestToGo c_Bo_latestToGo 7 (some .int) 109 [(3, .inl e)] [] ids cG σ 0 0 Rt) : pw l (px_R 1) y_Bo_latestToGo c_Bo_latestToGo 7 (some .int) 66 [(0, .inr (some (2, k0, 0))), (2, .inl v2), (3, .inl v3), (4, .inl v4)] [] ids cG σ 0 0 Rt := by
  unfold Bo_latestToGo_n66 at h
  refine pw_iconst (v := 0) (px_at td_Bo_latestToGo 37 rfl) (by decide) ?_
  refine pw_istore (L' := [(6, .inl 0), (0, .inr (some (2, k0, 0))), (2, .inl v2), (3, .inl v3), (4, .inl v4)]) (px_at td_Bo_latestToGo 38 rfl) (by decide) rfl ?_
  refine pw_iload 0 (px_at td_Bo_latestToGo 39 rfl) rfl ?_
  refine pw_if_eq 103 (px_at td_Bo_latestToGo 40 rfl) (by decide) (fun hn => ?_) (fun hn => absurd hn (by decide))
  refine pw_L [(0, .inr (some (2, k0, 0))), (2, .inl v2), (3, .inl v3), (4, .inl v4)] [1, 2, 3, 4] rfl ?_
  exact Bo_latestToGo_n103_l h hC hX0
def Bo_latestToGo_n100 (σ : pxS) (k0 : Nat) (v2 : Int32) (v4 : Int32) : Option ((Int32 × Int32) ⊕ (Int32)) :=
  Bo_latestToGo_n103 σ k0 v2 v4 v4
set_option maxRecDepth 100000 in
theorem Bo_latestToGo_n100_l {l : Launch} {ids : List pxI} {Rt : Option pxV → List pxI → pxG → pxS → Prop} {σ : pxS} {k0 : Nat} {v2 : Int32} {v4 : Int32} {o : (Int32 × Int32) ⊕ (Int32)} (h : Bo_latestToGo_n100 σ k0 v2 v4 = some o) (hC : ∀ s, o = .inl s → pw l (px_R 1) y_Bo_latestToGo c_Bo_latestToGo 7 (some .int) 17 [(0, .inr (some (2, k0, 0))), (2, .inl v2), (3, .inl s.1), (4, .inl s.2)] [] ids cG σ 0 0 Rt) (hX0 : ∀ e, o = .inr e → pw l (px_R 1) y_Bo_latestToGo c_Bo_latestToGo 7 (some .int) 109 [(3, .inl e)] [] ids cG σ 0 0 Rt) : pw l (px_R 1) y_Bo_latestToGo c_Bo_latestToGo 7 (some .int) 100 [(0, .inr (some (2, k0, 0))), (2, .inl v2), (4, .inl v4)] [] ids cG σ 0 0 Rt := by
  unfold Bo_latestToGo_n100 at h
  refine pw_iload 2 (px_at td_Bo_latestToGo 54 rfl) rfl ?_
  refine pw_istore_n (L' := [(3, .inl v4), (0, .inr (some (2, k0, 0))), (2, .inl v2), (4, .inl v4)]) (px_at td_Bo_latestToGo 55 rfl) rfl (by decide) rfl ?_
  refine pw_L [(0, .inr (some (2, k0, 0))), (2, .inl v2), (3, .inl v4), (4, .inl v4)] [1, 2, 0, 3] rfl ?_
  exact Bo_latestToGo_n103_l h hC hX0
def Bo_latestToGo_n62 (σ : pxS) (k0 : Nat) (v2 : Int32) (v3 : Int32) (v4 : Int32) : Option ((Int32 × Int32) ⊕ (Int32)) :=
  (if v3 < 0 then Bo_latestToGo_n100 σ k0 v2 v4 else px_gd v4 12 (px_gd v3 12 ((if (σ (3, k0, v4.toNatClampNeg) 8) < (σ (3, k0, v3.toNatClampNeg) 8) then Bo_latestToGo_n103 σ k0 v2 v3 v4 else Bo_latestToGo_n100 σ k0 v2 v4))))
set_option maxRecDepth 100000 in
theorem Bo_latestToGo_n62_l {l : Launch} {ids : List pxI} {Rt : Option pxV → List pxI → pxG → pxS → Prop} {σ : pxS} {k0 : Nat} {v2 : Int32} {v3 : Int32} {v4 : Int32} {o : (Int32 × Int32) ⊕ (Int32)} (h : Bo_latestToGo_n62 σ k0 v2 v3 v4 = some o) (hC : ∀ s, o = .inl s → pw l (px_R 1) y_Bo_latestToGo c_Bo_latestToGo 7 (some .int) 17 [(0, .inr (some (2, k0, 0))), (2, .inl v2), (3, .inl s.1), (4, .inl s.2)] [] ids cG σ 0 0 Rt) (hX0 : ∀ e, o = .inr e → pw l (px_R 1) y_Bo_latestToGo c_Bo_latestToGo 7 (some .int) 109 [(3, .inl e)] [] ids cG σ 0 0 Rt) : pw l (px_R 1) y_Bo_latestToGo c_Bo_latestToGo 7 (some .int) 62 [(0, .inr (some (2, k0, 0))), (2, .inl v2), (3, .inl v3), (4, .inl v4)] [] ids cG σ 0 0 Rt := by
  unfold Bo_latestToGo_n62 at h
  refine pw_iconst (v := 1) (px_at td_Bo_latestToGo 35 rfl) (by decide) ?_
  refine pw_goto 67 (px_at td_Bo_latestToGo 36 rfl) (by decide) ?_
  refine pw_istore (L' := [(6, .inl 1), (0, .inr (some (2, k0, 0))), (2, .inl v2), (3, .inl v3), (4, .inl v4)]) (px_at td_Bo_latestToGo 38 rfl) (by decide) rfl ?_
  refine pw_iload 0 (px_at td_Bo_latestToGo 39 rfl) rfl ?_
  refine pw_if_eq 103 (px_at td_Bo_latestToGo 40 rfl) (by decide) (fun hn => absurd hn (by decide)) (fun hn => ?_)
  refine pw_iload_n 3 (px_at td_Bo_latestToGo 41 rfl) rfl rfl ?_
  rcases px_ite h with ⟨hc5, h⟩ | ⟨hc5, h⟩
  · refine pw_if_lt 100 (px_at td_Bo_latestToGo 42 rfl) (by decide) (fun _ => ?_) (fun hn => absurd hc5 hn)
    refine pw_L [(0, .inr (some (2, k0, 0))), (2, .inl v2), (4, .inl v4)] [1, 2, 4] rfl ?_
    exact Bo_latestToGo_n100_l h hC hX0
  · refine pw_if_lt 100 (px_at td_Bo_latestToGo 42 rfl) (by decide) (fun hn => absurd hn hc5) (fun _ => ?_)
    refine pw_aload_n 1 (px_at td_Bo_latestToGo 43 rfl) rfl rfl ?_
    refine pw_getf (v := .inr (some (9, k0, 0))) (px_at td_Bo_latestToGo 44 rfl) lf_Bo_11 rfl rfl rfl ?_
    refine pw_iload 4 (px_at td_Bo_latestToGo 45 rfl) rfl ?_
    obtain ⟨hi2, h⟩ := px_gd_e h
    refine pw_aald (r := (3, k0, v4.toNatClampNeg)) (px_at td_Bo_latestToGo 46 rfl) rfl (fun _ => rfl) hi2 rfl ?_
    refine pw_getf (v := .inl (σ (3, k0, v4.toNatClampNeg) 8)) (px_at td_Bo_latestToGo 47 rfl) lf_Bo_158 rfl rfl rfl ?_
    refine pw_aload_n 1 (px_at td_Bo_latestToGo 48 rfl) rfl rfl ?_
    refine pw_getf (v := .inr (some (9, k0, 0))) (px_at td_Bo_latestToGo 49 rfl) lf_Bo_11 rfl rfl rfl ?_
    refine pw_iload_n 3 (px_at td_Bo_latestToGo 50 rfl) rfl rfl ?_
    obtain ⟨hi3, h⟩ := px_gd_e h
    refine pw_aald (r := (3, k0, v3.toNatClampNeg)) (px_at td_Bo_latestToGo 51 rfl) rfl (fun _ => rfl) hi3 rfl ?_
    refine pw_getf (v := .inl (σ (3, k0, v3.toNatClampNeg) 8)) (px_at td_Bo_latestToGo 52 rfl) lf_Bo_158 rfl rfl rfl ?_
    rcases px_ite h with ⟨hc4, h⟩ | ⟨hc4, h⟩
    · refine pw_icmp_lt 103 (px_at td_Bo_latestToGo 53 rfl) (by decide) (fun _ => ?_) (fun hn => absurd hc4 hn)
      refine pw_L [(0, .inr (some (2, k0, 0))), (2, .inl v2), (3, .inl v3), (4, .inl v4)] [1, 2, 3, 4] rfl ?_
      exact Bo_latestToGo_n103_l h hC hX0
    · refine pw_icmp_lt 103 (px_at td_Bo_latestToGo 53 rfl) (by decide) (fun hn => absurd hn hc4) (fun _ => ?_)
      refine pw_L [(0, .inr (some (2, k0, 0))), (2, .inl v2), (4, .inl v4)] [1, 2, 4] rfl ?_
      exact Bo_latestToGo_n100_l h hC hX0
def Bo_latestToGo_n17 (σ : pxS) (k0 : Nat) (v2 : Int32) (v3 : Int32) (v4 : Int32) : Option ((Int32 × Int32) ⊕ (Int32)) :=
  (if (σ (1, (σ (2, k0, 0) 4).toNatClampNeg, 0) 0) ≤ v4 then some (.inr v3) else px_gd v4 12 ((if ((v2 >>> (v4 &&& 31)) &&& 1) = 0 then Bo_latestToGo_n66 σ k0 v2 v3 v4 else (if (σ (3, k0, v4.toNatClampNeg) 2) = 2 then Bo_latestToGo_n62 σ k0 v2 v3 v4 else (if (σ (3, k0, v4.toNatClampNeg) 2) = 3 then Bo_latestToGo_n62 σ k0 v2 v3 v4 else Bo_latestToGo_n66 σ k0 v2 v3 v4)))))
set_option maxRecDepth 100000 in
theorem Bo_latestToGo_n17_l {l : Launch} {ids : List pxI} {Rt : Option pxV → List pxI → pxG → pxS → Prop} {σ : pxS} {k0 : Nat} {v2 : Int32} {v3 : Int32} {v4 : Int32} {o : (Int32 × Int32) ⊕ (Int32)} (h : Bo_latestToGo_n17 σ k0 v2 v3 v4 = some o) (hC : ∀ s, o = .inl s → pw l (px_R 1) y_Bo_latestToGo c_Bo_latestToGo 7 (some .int) 17 [(0, .inr (some (2, k0, 0))), (2, .inl v2), (3, .inl s.1), (4, .inl s.2)] [] ids cG σ 0 0 Rt) (hX0 : ∀ e, o = .inr e → pw l (px_R 1) y_Bo_latestToGo c_Bo_latestToGo 7 (some .int) 109 [(3, .inl e)] [] ids cG σ 0 0 Rt) : pw l (px_R 1) y_Bo_latestToGo c_Bo_latestToGo 7 (some .int) 17 [(0, .inr (some (2, k0, 0))), (2, .inl v2), (3, .inl v3), (4, .inl v4)] [] ids cG σ 0 0 Rt := by
  unfold Bo_latestToGo_n17 at h
  refine pw_iload 3 (px_at td_Bo_latestToGo 12 rfl) rfl ?_
  refine pw_aload_n 0 (px_at td_Bo_latestToGo 13 rfl) rfl rfl ?_
  refine pw_getf (v := .inr (some (1, (σ (2, k0, 0) 4).toNatClampNeg, 0))) (px_at td_Bo_latestToGo 14 rfl) lf_Bo_31 rfl rfl rfl ?_
  refine pw_getf (v := .inl (σ (1, (σ (2, k0, 0) 4).toNatClampNeg, 0) 0)) (px_at td_Bo_latestToGo 15 rfl) lf_Bo_70 rfl rfl rfl ?_
  rcases px_ite h with ⟨hc9, h⟩ | ⟨hc9, h⟩
  · refine pw_icmp_ge 109 (px_at td_Bo_latestToGo 16 rfl) (by decide) (fun _ => ?_) (fun hn => absurd hc9 hn)
    refine pw_L [(3, .inl v3)] [2] rfl ?_
    exact hX0 v3 (Option.some.inj h).symm
  · refine pw_icmp_ge 109 (px_at td_Bo_latestToGo 16 rfl) (by decide) (fun hn => absurd hn hc9) (fun _ => ?_)
    refine pw_aload_n 0 (px_at td_Bo_latestToGo 17 rfl) rfl rfl ?_
    refine pw_getf (v := .inr (some (9, k0, 0))) (px_at td_Bo_latestToGo 18 rfl) lf_Bo_11 rfl rfl rfl ?_
    refine pw_iload 3 (px_at td_Bo_latestToGo 19 rfl) rfl ?_
    obtain ⟨hi1, h⟩ := px_gd_e h
    refine pw_aald (r := (3, k0, v4.toNatClampNeg)) (px_at td_Bo_latestToGo 20 rfl) rfl (fun _ => rfl) hi1 rfl ?_
    refine pw_getf (v := .inl (σ (3, k0, v4.toNatClampNeg) 2)) (px_at td_Bo_latestToGo 21 rfl) lf_Bo_85 rfl rfl rfl ?_
    refine pw_istore (L' := [(5, .inl (σ (3, k0, v4.toNatClampNeg) 2)), (0, .inr (some (2, k0, 0))), (2, .inl v2), (3, .inl v3), (4, .inl v4)]) (px_at td_Bo_latestToGo 22 rfl) (by decide) rfl ?_
    refine pw_iload_n 2 (px_at td_Bo_latestToGo 23 rfl) rfl rfl ?_
    refine pw_iload 4 (px_at td_Bo_latestToGo 24 rfl) rfl ?_
    refine pw_ishr (px_at td_Bo_latestToGo 25 rfl) ?_
    refine pw_iconst (v := 1) (px_at td_Bo_latestToGo 26 rfl) (by decide) ?_
    refine pw_iand (px_at td_Bo_latestToGo 27 rfl) ?_
    rcases px_ite h with ⟨hc8, h⟩ | ⟨hc8, h⟩
    · refine pw_if_eq 66 (px_at td_Bo_latestToGo 28 rfl) (by decide) (fun _ => ?_) (fun hn => absurd hc8 hn)
      refine pw_L [(0, .inr (some (2, k0, 0))), (2, .inl v2), (3, .inl v3), (4, .inl v4)] [1, 2, 3, 4] rfl ?_
      exact Bo_latestToGo_n66_l h hC hX0
    · refine pw_if_eq 66 (px_at td_Bo_latestToGo 28 rfl) (by decide) (fun hn => absurd hn hc8) (fun _ => ?_)
      refine pw_iload 0 (px_at td_Bo_latestToGo 29 rfl) rfl ?_
      refine pw_iconst (v := 2) (px_at td_Bo_latestToGo 30 rfl) (by decide) ?_
      rcases px_ite h with ⟨hc7, h⟩ | ⟨hc7, h⟩
      · refine pw_icmp_eq 62 (px_at td_Bo_latestToGo 31 rfl) (by decide) (fun _ => ?_) (fun hn => absurd hc7 hn)
        refine pw_L [(0, .inr (some (2, k0, 0))), (2, .inl v2), (3, .inl v3), (4, .inl v4)] [1, 2, 3, 4] rfl ?_
        exact Bo_latestToGo_n62_l h hC hX0
      · refine pw_icmp_eq 62 (px_at td_Bo_latestToGo 31 rfl) (by decide) (fun hn => absurd hn hc7) (fun _ => ?_)
        refine pw_iload 0 (px_at td_Bo_latestToGo 32 rfl) rfl ?_
        refine pw_iconst (v := 3) (px_at td_Bo_latestToGo 33 rfl) (by decide) ?_
        rcases px_ite h with ⟨hc6, h⟩ | ⟨hc6, h⟩
        · refine pw_icmp_ne 66 (px_at td_Bo_latestToGo 34 rfl) (by decide) (fun hn => absurd hc6 hn) (fun _ => ?_)
          refine pw_L [(0, .inr (some (2, k0, 0))), (2, .inl v2), (3, .inl v3), (4, .inl v4)] [1, 2, 3, 4] rfl ?_
          exact Bo_latestToGo_n62_l h hC hX0
        · refine pw_icmp_ne 66 (px_at td_Bo_latestToGo 34 rfl) (by decide) (fun _ => ?_) (fun hn => absurd hn hc6)
          refine pw_L [(0, .inr (some (2, k0, 0))), (2, .inl v2), (3, .inl v3), (4, .inl v4)] [1, 2, 3, 4] rfl ?_
          exact Bo_latestToGo_n66_l h hC hX0
def Bo_latestToGo_L17 (σ : pxS) (k0 : Nat) (v2 : Int32) : (Int32 × Int32) → Option ((Int32 × Int32) ⊕ (Int32)) := fun s => Bo_latestToGo_n17 σ k0 v2 s.1 s.2
set_option maxRecDepth 100000 in
theorem Bo_latestToGo_L17_l {l : Launch} {ids : List pxI} {Rt : Option pxV → List pxI → pxG → pxS → Prop} {σ : pxS} {k0 : Nat} {v2 : Int32} {n : Nat} {s : Int32 × Int32} {e : Int32} (h : px_it (Bo_latestToGo_L17 σ k0 v2) n s = some e) (hX0 : pw l (px_R 1) y_Bo_latestToGo c_Bo_latestToGo 7 (some .int) 109 [(3, .inl e)] [] ids cG σ 0 0 Rt) : pw l (px_R 1) y_Bo_latestToGo c_Bo_latestToGo 7 (some .int) 17 [(0, .inr (some (2, k0, 0))), (2, .inl v2), (3, .inl s.1), (4, .inl s.2)] [] ids cG σ 0 0 Rt := by
  refine px_it_rule (f := Bo_latestToGo_L17 σ k0 v2) (C := fun s => pw l (px_R 1) y_Bo_latestToGo c_Bo_latestToGo 7 (some .int) 17 [(0, .inr (some (2, k0, 0))), (2, .inl v2), (3, .inl s.1), (4, .inl s.2)] [] ids cG σ 0 0 Rt) (X := fun e => (pw l (px_R 1) y_Bo_latestToGo c_Bo_latestToGo 7 (some .int) 109 [(3, .inl e)] [] ids cG σ 0 0 Rt)) ?_ ?_ n s e h hX0
  · intro s s1 hf hC
    exact Bo_latestToGo_n17_l hf (fun s2 hs => by cases hs; exact hC) (fun e he => by cases he)
  · intro s e hf hX
    exact Bo_latestToGo_n17_l hf (fun s2 hs => by cases hs) (fun e1 he => by cases he; exact hX)
def F_Bo_latestToGo (σ : pxS) (k0 : Nat) (v1 : Int32) : Option (Int32) :=
  px_b1 (px_it (Bo_latestToGo_L17 σ k0 (v1 &&& ((σ (4, k0, 1) 2) ^^^ (-1)))) px_N ((-1), 0)) fun e10 =>
  some (e10)
set_option maxRecDepth 100000 in
theorem e_Bo_latestToGo {l : Launch} {ids : List pxI} {Rt : Option pxV → List pxI → pxG → pxS → Prop} {σ : pxS} {k0 : Nat} {v1 : Int32} {res : Int32} (h : F_Bo_latestToGo σ k0 v1 = some res) (hR : Rt (some (.inl res)) ids cG σ) : pw l (px_R 1) y_Bo_latestToGo c_Bo_latestToGo 7 (some .int) 0 [(0, .inr (some (2, k0, 0))), (1, .inl v1)] [] ids cG σ 0 0 Rt := by
  unfold F_Bo_latestToGo at h
  refine pw_iload_n 1 (px_at td_Bo_latestToGo 0 rfl) rfl rfl ?_
  refine pw_aload_n 0 (px_at td_Bo_latestToGo 1 rfl) rfl rfl ?_
  refine pw_getf (v := .inr (some (4, k0, 1))) (px_at td_Bo_latestToGo 2 rfl) lf_Bo_24 rfl rfl rfl ?_
  refine pw_getf (v := .inl (σ (4, k0, 1) 2)) (px_at td_Bo_latestToGo 3 rfl) lf_Bo_155 rfl rfl rfl ?_
  refine pw_iconst (v := (-1)) (px_at td_Bo_latestToGo 4 rfl) (by decide) ?_
  refine pw_ixor (px_at td_Bo_latestToGo 5 rfl) ?_
  refine pw_iand (px_at td_Bo_latestToGo 6 rfl) ?_
  refine pw_istore_n (L' := [(2, .inl (v1 &&& ((σ (4, k0, 1) 2) ^^^ (-1)))), (0, .inr (some (2, k0, 0))), (1, .inl v1)]) (px_at td_Bo_latestToGo 7 rfl) rfl (by decide) rfl ?_
  refine pw_iconst (v := (-1)) (px_at td_Bo_latestToGo 8 rfl) (by decide) ?_
  refine pw_istore_n (L' := [(3, .inl (-1)), (2, .inl (v1 &&& ((σ (4, k0, 1) 2) ^^^ (-1)))), (0, .inr (some (2, k0, 0))), (1, .inl v1)]) (px_at td_Bo_latestToGo 9 rfl) rfl (by decide) rfl ?_
  refine pw_iconst (v := 0) (px_at td_Bo_latestToGo 10 rfl) (by decide) ?_
  refine pw_istore (L' := [(4, .inl 0), (3, .inl (-1)), (2, .inl (v1 &&& ((σ (4, k0, 1) 2) ^^^ (-1)))), (0, .inr (some (2, k0, 0))), (1, .inl v1)]) (px_at td_Bo_latestToGo 11 rfl) (by decide) rfl ?_
  obtain ⟨e10, he10, h⟩ := px_b1_e h
  refine pw_L [(0, .inr (some (2, k0, 0))), (2, .inl (v1 &&& ((σ (4, k0, 1) 2) ^^^ (-1)))), (3, .inl (-1)), (4, .inl 0)] [3, 2, 1, 0] rfl ?_
  refine Bo_latestToGo_L17_l he10 ?_
  refine pw_iload_n 0 (px_at td_Bo_latestToGo 58 rfl) rfl rfl ?_
  obtain rfl := Option.some.inj h
  exact pw_iret (px_at td_Bo_latestToGo 59 rfl) rfl (Nat.le_refl 0) (Nat.le_refl 0) hR
theorem k_Bo_latestToGo {l : Launch} {ids : List pxI} {σ : pxS} {k0 : Nat} {v1 : Int32} {res : Int32} (h : F_Bo_latestToGo σ k0 v1 = some res) : pm l y_Bo_latestToGo c_Bo_latestToGo 7 (some .int) (px_R 1) [.inr (some (2, k0, 0)), .inl v1] ids cG σ (px_r (some (.inl res)) ids cG σ) :=
  pm_ofF (by decide +kernel) (Nat.le_of_ble_eq_true rfl) (e_Bo_latestToGo h ⟨rfl, rfl, rfl, rfl⟩)
/-! Bo_unwind -/
def Bo_unwind_n52 (σ : pxS) (k0 : Nat) (v1 : Int32) (v2 : Int32) : Option ((Int32 × pxS) ⊕ (pxS)) :=
  some (.inl ((v2 + 1), σ))
set_option maxRecDepth 100000 in
theorem Bo_unwind_n52_l {l : Launch} {ids : List pxI} {Rt : Option pxV → List pxI → pxG → pxS → Prop} {σ : pxS} {k0 : Nat} {v1 : Int32} {v2 : Int32} {o : (Int32 × pxS) ⊕ (pxS)} (h : Bo_unwind_n52 σ k0 v1 v2 = some o) (hC : ∀ s, o = .inl s → pw l (px_R 2) y_Bo_unwind c_Bo_unwind 4 none 2 [(0, .inr (some (2, k0, 0))), (1, .inl v1), (2, .inl s.1)] [] ids cG s.2 0 0 Rt) (hX0 : ∀ e, o = .inr e → pw l (px_R 2) y_Bo_unwind c_Bo_unwind 4 none 58 [(0, .inr (some (2, k0, 0))), (1, .inl v1)] [] ids cG e 0 0 Rt) : pw l (px_R 2) y_Bo_unwind c_Bo_unwind 4 none 52 [(0, .inr (some (2, k0, 0))), (1, .inl v1), (2, .inl v2)] [] ids cG σ 0 0 Rt := by
  unfold Bo_unwind_n52 at h
  refine pw_iinc (q := 2) (v := (v2 + 1)) (L' := [(2, .inl (v2 + 1)), (0, .inr (some (2, k0, 0))), (1, .inl v1)]) (px_at td_Bo_unwind 30 rfl) rfl rfl (by decide) rfl ?_
  refine pw_goto 2 (px_at td_Bo_unwind 31 rfl) (by decide) ?_
  refine pw_L [(0, .inr (some (2, k0, 0))), (1, .inl v1), (2, .inl (v2 + 1))] [1, 2, 0] rfl ?_
  exact hC ((v2 + 1), σ) (Option.some.inj h).symm
def Bo_unwind_n2 (σ : pxS) (k0 : Nat) (v1 : Int32) (v2 : Int32) : Option ((Int32 × pxS) ⊕ (pxS)) :=
  (if (σ (1, (σ (2, k0, 0) 4).toNatClampNeg, 0) 0) ≤ v2 then some (.inr σ) else (if ((v1 >>> (v2 &&& 31)) &&& 1) = 0 then Bo_unwind_n52 σ k0 v1 v2 else px_gd v2 12 ((if (σ (3, k0, v2.toNatClampNeg) 2) = 1 then px_gd v2 12 (px_l (px_up σ (3, k0, v2.toNatClampNeg) 2 0) fun σ3 =>
  px_b1 (F_Qu_drop σ3 k0 0 v2) fun σ4 =>
  Bo_unwind_n52 σ4 k0 v1 v2) else Bo_unwind_n52 σ k0 v1 v2))))
set_option maxRecDepth 100000 in
theorem Bo_unwind_n2_l {l : Launch} {ids : List pxI} {Rt : Option pxV → List pxI → pxG → pxS → Prop} {σ : pxS} {k0 : Nat} {v1 : Int32} {v2 : Int32} {o : (Int32 × pxS) ⊕ (pxS)} (h : Bo_unwind_n2 σ k0 v1 v2 = some o) (hC : ∀ s, o = .inl s → pw l (px_R 2) y_Bo_unwind c_Bo_unwind 4 none 2 [(0, .inr (some (2, k0, 0))), (1, .inl v1), (2, .inl s.1)] [] ids cG s.2 0 0 Rt) (hX0 : ∀ e, o = .inr e → pw l (px_R 2) y_Bo_unwind c_Bo_unwind 4 none 58 [(0, .inr (some (2, k0, 0))), (1, .inl v1)] [] ids cG e 0 0 Rt) : pw l (px_R 2) y_Bo_unwind c_Bo_unwind 4 none 2 [(0, .inr (some (2, k0, 0))), (1, .inl v1), (2, .inl v2)] [] ids cG σ 0 0 Rt := by
  unfold Bo_unwind_n2 at h
  refine pw_iload_n 2 (px_at td_Bo_unwind 2 rfl) rfl rfl ?_
  refine pw_aload_n 0 (px_at td_Bo_unwind 3 rfl) rfl rfl ?_
  refine pw_getf (v := .inr (some (1, (σ (2, k0, 0) 4).toNatClampNeg, 0))) (px_at td_Bo_unwind 4 rfl) lf_Bo_31 rfl rfl rfl ?_
  refine pw_getf (v := .inl (σ (1, (σ (2, k0, 0) 4).toNatClampNeg, 0) 0)) (px_at td_Bo_unwind 5 rfl) lf_Bo_70 rfl rfl rfl ?_
  rcases px_ite h with ⟨hc7, h⟩ | ⟨hc7, h⟩
  · refine pw_icmp_ge 58 (px_at td_Bo_unwind 6 rfl) (by decide) (fun _ => ?_) (fun hn => absurd hc7 hn)
    refine pw_L [(0, .inr (some (2, k0, 0))), (1, .inl v1)] [0, 1] rfl ?_
    exact hX0 σ (Option.some.inj h).symm
  · refine pw_icmp_ge 58 (px_at td_Bo_unwind 6 rfl) (by decide) (fun hn => absurd hn hc7) (fun _ => ?_)
    refine pw_iload_n 1 (px_at td_Bo_unwind 7 rfl) rfl rfl ?_
    refine pw_iload_n 2 (px_at td_Bo_unwind 8 rfl) rfl rfl ?_
    refine pw_ishr (px_at td_Bo_unwind 9 rfl) ?_
    refine pw_iconst (v := 1) (px_at td_Bo_unwind 10 rfl) (by decide) ?_
    refine pw_iand (px_at td_Bo_unwind 11 rfl) ?_
    rcases px_ite h with ⟨hc6, h⟩ | ⟨hc6, h⟩
    · refine pw_if_eq 52 (px_at td_Bo_unwind 12 rfl) (by decide) (fun _ => ?_) (fun hn => absurd hc6 hn)
      exact Bo_unwind_n52_l h hC hX0
    · refine pw_if_eq 52 (px_at td_Bo_unwind 12 rfl) (by decide) (fun hn => absurd hn hc6) (fun _ => ?_)
      refine pw_aload_n 0 (px_at td_Bo_unwind 13 rfl) rfl rfl ?_
      refine pw_getf (v := .inr (some (9, k0, 0))) (px_at td_Bo_unwind 14 rfl) lf_Bo_11 rfl rfl rfl ?_
      refine pw_iload_n 2 (px_at td_Bo_unwind 15 rfl) rfl rfl ?_
      obtain ⟨hi1, h⟩ := px_gd_e h
      refine pw_aald (r := (3, k0, v2.toNatClampNeg)) (px_at td_Bo_unwind 16 rfl) rfl (fun _ => rfl) hi1 rfl ?_
      refine pw_getf (v := .inl (σ (3, k0, v2.toNatClampNeg) 2)) (px_at td_Bo_unwind 17 rfl) lf_Bo_85 rfl rfl rfl ?_
      refine pw_iconst (v := 1) (px_at td_Bo_unwind 18 rfl) (by decide) ?_
      rcases px_ite h with ⟨hc5, h⟩ | ⟨hc5, h⟩
      · refine pw_icmp_ne 52 (px_at td_Bo_unwind 19 rfl) (by decide) (fun hn => absurd hc5 hn) (fun _ => ?_)
        refine pw_aload_n 0 (px_at td_Bo_unwind 20 rfl) rfl rfl ?_
        refine pw_getf (v := .inr (some (9, k0, 0))) (px_at td_Bo_unwind 21 rfl) lf_Bo_11 rfl rfl rfl ?_
        refine pw_iload_n 2 (px_at td_Bo_unwind 22 rfl) rfl rfl ?_
        obtain ⟨hi2, h⟩ := px_gd_e h
        refine pw_aald (r := (3, k0, v2.toNatClampNeg)) (px_at td_Bo_unwind 23 rfl) rfl (fun _ => rfl) hi2 rfl ?_
        refine pw_iconst (v := 0) (px_at td_Bo_unwind 24 rfl) (by decide) ?_
        obtain ⟨σ3, hσ3, h⟩ := px_l_e h
        refine pw_puti (px_at td_Bo_unwind 25 rfl) lw_Bo_85 rfl rfl (pw_s hσ3 ?_)
        refine pw_aload_n 0 (px_at td_Bo_unwind 26 rfl) rfl rfl ?_
        refine pw_getf (v := .inr (some (4, k0, 0))) (px_at td_Bo_unwind 27 rfl) lf_Bo_20 rfl rfl rfl ?_
        refine pw_iload_n 2 (px_at td_Bo_unwind 28 rfl) rfl rfl ?_
        obtain ⟨σ4, hk4, h⟩ := px_b1_e h
        refine pw_cV0 (4, k0, 0) [.inl v2] [] (px_at td_Bo_unwind 29 rfl) lV_Bo_136 rfl rfl rfl (Nat.le_of_ble_eq_true rfl) (by decide) (k_Qu_drop hk4) ?_
        exact Bo_unwind_n52_l h hC hX0
      · refine pw_icmp_ne 52 (px_at td_Bo_unwind 19 rfl) (by decide) (fun _ => ?_) (fun hn => absurd hn hc5)
        exact Bo_unwind_n52_l h hC hX0
def Bo_unwind_L2 (k0 : Nat) (v1 : Int32) : (Int32 × pxS) → Option ((Int32 × pxS) ⊕ (pxS)) := fun s => Bo_unwind_n2 s.2 k0 v1 s.1
set_option maxRecDepth 100000 in
theorem Bo_unwind_L2_l {l : Launch} {ids : List pxI} {Rt : Option pxV → List pxI → pxG → pxS → Prop} {k0 : Nat} {v1 : Int32} {n : Nat} {s : Int32 × pxS} {e : pxS} (h : px_it (Bo_unwind_L2 k0 v1) n s = some e) (hX0 : pw l (px_R 2) y_Bo_unwind c_Bo_unwind 4 none 58 [(0, .inr (some (2, k0, 0))), (1, .inl v1)] [] ids cG e 0 0 Rt) : pw l (px_R 2) y_Bo_unwind c_Bo_unwind 4 none 2 [(0, .inr (some (2, k0, 0))), (1, .inl v1), (2, .inl s.1)] [] ids cG s.2 0 0 Rt := by
  refine px_it_rule (f := Bo_unwind_L2 k0 v1) (C := fun s => pw l (px_R 2) y_Bo_unwind c_Bo_unwind 4 none 2 [(0, .inr (some (2, k0, 0))), (1, .inl v1), (2, .inl s.1)] [] ids cG s.2 0 0 Rt) (X := fun e => (pw l (px_R 2) y_Bo_unwind c_Bo_unwind 4 none 58 [(0, .inr (some (2, k0, 0))), (1, .inl v1)] [] ids cG e 0 0 Rt)) ?_ ?_ n s e h hX0
  · intro s s1 hf hC
    exact Bo_unwind_n2_l hf (fun s2 hs => by cases hs; exact hC) (fun e he => by cases he)
  · intro s e hf hX
    exact Bo_unwind_n2_l hf (fun s2 hs => by cases hs) (fun e1 he => by cases he; exact hX)
def Bo_unwind_n66 (σ : pxS) (k0 : Nat) (v1 : Int32) (v2 : Int32) (v3 : Int32) : Option ((Int32 × Int32 × pxS) ⊕ (pxS)) :=
  (if 12 ≤ v3 then some (.inr σ) else (if v2 < 0 then some (.inr σ) else px_b1 (F_Qu_add σ k0 1 v2) fun σ10 =>
  px_gd v2 12 (px_l (px_up σ10 (3, k0, v2.toNatClampNeg) 12 0) fun σ12 =>
  px_b1 (F_Bo_latestToGo σ12 k0 v1) fun r13 =>
  some (.inl (r13, (v3 + 1), σ12)))))
set_option maxRecDepth 100000 in
theorem Bo_unwind_n66_l {l : Launch} {ids : List pxI} {Rt : Option pxV → List pxI → pxG → pxS → Prop} {σ : pxS} {k0 : Nat} {v1 : Int32} {v2 : Int32} {v3 : Int32} {o : (Int32 × Int32 × pxS) ⊕ (pxS)} (h : Bo_unwind_n66 σ k0 v1 v2 v3 = some o) (hC : ∀ s, o = .inl s → pw l (px_R 2) y_Bo_unwind c_Bo_unwind 4 none 66 [(0, .inr (some (2, k0, 0))), (1, .inl v1), (2, .inl s.1), (3, .inl s.2.1)] [] ids cG s.2.2 0 0 Rt) (hX0 : ∀ e, o = .inr e → pw l (px_R 2) y_Bo_unwind c_Bo_unwind 4 none 106 [] [] ids cG e 0 0 Rt) : pw l (px_R 2) y_Bo_unwind c_Bo_unwind 4 none 66 [(0, .inr (some (2, k0, 0))), (1, .inl v1), (2, .inl v2), (3, .inl v3)] [] ids cG σ 0 0 Rt := by
  unfold Bo_unwind_n66 at h
  refine pw_iload_n 3 (px_at td_Bo_unwind 38 rfl) rfl rfl ?_
  refine pw_bipush (v := 12) (px_at td_Bo_unwind 39 rfl) (by decide) ?_
  rcases px_ite h with ⟨hc15, h⟩ | ⟨hc15, h⟩
  · refine pw_icmp_ge 106 (px_at td_Bo_unwind 40 rfl) (by decide) (fun _ => ?_) (fun hn => absurd hc15 hn)
    refine pw_L [] [] rfl ?_
    exact hX0 σ (Option.some.inj h).symm
  · refine pw_icmp_ge 106 (px_at td_Bo_unwind 40 rfl) (by decide) (fun hn => absurd hn hc15) (fun _ => ?_)
    refine pw_iload_n 2 (px_at td_Bo_unwind 41 rfl) rfl rfl ?_
    rcases px_ite h with ⟨hc14, h⟩ | ⟨hc14, h⟩
    · refine pw_if_lt 106 (px_at td_Bo_unwind 42 rfl) (by decide) (fun _ => ?_) (fun hn => absurd hc14 hn)
      refine pw_L [] [] rfl ?_
      exact hX0 σ (Option.some.inj h).symm
    · refine pw_if_lt 106 (px_at td_Bo_unwind 42 rfl) (by decide) (fun hn => absurd hn hc14) (fun _ => ?_)
      refine pw_aload_n 0 (px_at td_Bo_unwind 43 rfl) rfl rfl ?_
      refine pw_getf (v := .inr (some (4, k0, 1))) (px_at td_Bo_unwind 44 rfl) lf_Bo_24 rfl rfl rfl ?_
      refine pw_iload_n 2 (px_at td_Bo_unwind 45 rfl) rfl rfl ?_
      obtain ⟨σ10, hk10, h⟩ := px_b1_e h
      refine pw_cV0 (4, k0, 1) [.inl v2] [] (px_at td_Bo_unwind 46 rfl) lV_Bo_148 rfl rfl rfl (Nat.le_of_ble_eq_true rfl) (by decide) (k_Qu_add hk10) ?_
      refine pw_aload_n 0 (px_at td_Bo_unwind 47 rfl) rfl rfl ?_
      refine pw_getf (v := .inr (some (9, k0, 0))) (px_at td_Bo_unwind 48 rfl) lf_Bo_11 rfl rfl rfl ?_
      refine pw_iload_n 2 (px_at td_Bo_unwind 49 rfl) rfl rfl ?_
      obtain ⟨hi11, h⟩ := px_gd_e h
      refine pw_aald (r := (3, k0, v2.toNatClampNeg)) (px_at td_Bo_unwind 50 rfl) rfl (fun _ => rfl) hi11 rfl ?_
      refine pw_iconst (v := 0) (px_at td_Bo_unwind 51 rfl) (by decide) ?_
      obtain ⟨σ12, hσ12, h⟩ := px_l_e h
      refine pw_putz (px_at td_Bo_unwind 52 rfl) lw_Bo_128 rfl rfl (by decide) (pw_s hσ12 ?_)
      refine pw_aload_n 0 (px_at td_Bo_unwind 53 rfl) rfl rfl ?_
      refine pw_iload_n 1 (px_at td_Bo_unwind 54 rfl) rfl rfl ?_
      obtain ⟨r13, hk13, h⟩ := px_b1_e h
      refine pw_cV1 (2, k0, 0) [.inl v1] [] (px_at td_Bo_unwind 55 rfl) lV_Bo_151 rfl rfl rfl (Nat.le_of_ble_eq_true rfl) (by decide) (k_Bo_latestToGo hk13) ?_
      refine pw_istore_n (L' := [(2, .inl r13), (0, .inr (some (2, k0, 0))), (1, .inl v1), (3, .inl v3)]) (px_at td_Bo_unwind 56 rfl) rfl (by decide) rfl ?_
      refine pw_iinc (q := 3) (v := (v3 + 1)) (L' := [(3, .inl (v3 + 1)), (2, .inl r13), (0, .inr (some (2, k0, 0))), (1, .inl v1)]) (px_at td_Bo_unwind 57 rfl) rfl rfl (by decide) rfl ?_
      refine pw_goto 66 (px_at td_Bo_unwind 58 rfl) (by decide) ?_
      refine pw_L [(0, .inr (some (2, k0, 0))), (1, .inl v1), (2, .inl r13), (3, .inl (v3 + 1))] [2, 3, 1, 0] rfl ?_
      exact hC (r13, (v3 + 1), σ12) (Option.some.inj h).symm
def Bo_unwind_L66 (k0 : Nat) (v1 : Int32) : (Int32 × Int32 × pxS) → Option ((Int32 × Int32 × pxS) ⊕ (pxS)) := fun s => Bo_unwind_n66 s.2.2 k0 v1 s.1 s.2.1
set_option maxRecDepth 100000 in
theorem Bo_unwind_L66_l {l : Launch} {ids : List pxI} {Rt : Option pxV → List pxI → pxG → pxS → Prop} {k0 : Nat} {v1 : Int32} {n : Nat} {s : Int32 × Int32 × pxS} {e : pxS} (h : px_it (Bo_unwind_L66 k0 v1) n s = some e) (hX0 : pw l (px_R 2) y_Bo_unwind c_Bo_unwind 4 none 106 [] [] ids cG e 0 0 Rt) : pw l (px_R 2) y_Bo_unwind c_Bo_unwind 4 none 66 [(0, .inr (some (2, k0, 0))), (1, .inl v1), (2, .inl s.1), (3, .inl s.2.1)] [] ids cG s.2.2 0 0 Rt := by
  refine px_it_rule (f := Bo_unwind_L66 k0 v1) (C := fun s => pw l (px_R 2) y_Bo_unwind c_Bo_unwind 4 none 66 [(0, .inr (some (2, k0, 0))), (1, .inl v1), (2, .inl s.1), (3, .inl s.2.1)] [] ids cG s.2.2 0 0 Rt) (X := fun e => (pw l (px_R 2) y_Bo_unwind c_Bo_unwind 4 none 106 [] [] ids cG e 0 0 Rt)) ?_ ?_ n s e h hX0
  · intro s s1 hf hC
    exact Bo_unwind_n66_l hf (fun s2 hs => by cases hs; exact hC) (fun e he => by cases he)
  · intro s e hf hX
    exact Bo_unwind_n66_l hf (fun s2 hs => by cases hs) (fun e1 he => by cases he; exact hX)
def F_Bo_unwind (σ : pxS) (k0 : Nat) (v1 : Int32) : Option (pxS) :=
  px_b1 (px_it (Bo_unwind_L2 k0 v1) px_N (0, σ)) fun e8 =>
  px_b1 (F_Bo_latestToGo e8 k0 v1) fun r9 =>
  px_b1 (px_it (Bo_unwind_L66 k0 v1) px_N (r9, 0, e8)) fun e16 =>
  some e16
set_option maxRecDepth 100000 in
theorem e_Bo_unwind {l : Launch} {ids : List pxI} {Rt : Option pxV → List pxI → pxG → pxS → Prop} {σ : pxS} {k0 : Nat} {v1 : Int32} {res : pxS} (h : F_Bo_unwind σ k0 v1 = some res) (hR : Rt none ids cG res) : pw l (px_R 2) y_Bo_unwind c_Bo_unwind 4 none 0 [(0, .inr (some (2, k0, 0))), (1, .inl v1)] [] ids cG σ 0 0 Rt := by
  unfold F_Bo_unwind at h
  refine pw_iconst (v := 0) (px_at td_Bo_unwind 0 rfl) (by decide) ?_
  refine pw_istore_n (L' := [(2, .inl 0), (0, .inr (some (2, k0, 0))), (1, .inl v1)]) (px_at td_Bo_unwind 1 rfl) rfl (by decide) rfl ?_
  obtain ⟨e8, he8, h⟩ := px_b1_e h
  refine pw_L [(0, .inr (some (2, k0, 0))), (1, .inl v1), (2, .inl 0)] [1, 2, 0] rfl ?_
  refine Bo_unwind_L2_l he8 ?_
  refine pw_aload_n 0 (px_at td_Bo_unwind 32 rfl) rfl rfl ?_
  refine pw_iload_n 1 (px_at td_Bo_unwind 33 rfl) rfl rfl ?_
  obtain ⟨r9, hk9, h⟩ := px_b1_e h
  refine pw_cV1 (2, k0, 0) [.inl v1] [] (px_at td_Bo_unwind 34 rfl) lV_Bo_151 rfl rfl rfl (Nat.le_of_ble_eq_true rfl) (by decide) (k_Bo_latestToGo hk9) ?_
  refine pw_istore_n (L' := [(2, .inl r9), (0, .inr (some (2, k0, 0))), (1, .inl v1)]) (px_at td_Bo_unwind 35 rfl) rfl (by decide) rfl ?_
  refine pw_iconst (v := 0) (px_at td_Bo_unwind 36 rfl) (by decide) ?_
  refine pw_istore_n (L' := [(3, .inl 0), (2, .inl r9), (0, .inr (some (2, k0, 0))), (1, .inl v1)]) (px_at td_Bo_unwind 37 rfl) rfl (by decide) rfl ?_
  obtain ⟨e16, he16, h⟩ := px_b1_e h
  refine pw_L [(0, .inr (some (2, k0, 0))), (1, .inl v1), (2, .inl r9), (3, .inl 0)] [2, 3, 1, 0] rfl ?_
  refine Bo_unwind_L66_l he16 ?_
  obtain rfl := Option.some.inj h
  exact pw_vret (px_at td_Bo_unwind 59 rfl) rfl (Nat.le_refl 0) (Nat.le_refl 0) hR
theorem k_Bo_unwind {l : Launch} {ids : List pxI} {σ : pxS} {k0 : Nat} {v1 : Int32} {res : pxS} (h : F_Bo_unwind σ k0 v1 = some res) : pm l y_Bo_unwind c_Bo_unwind 4 none (px_R 2) [.inr (some (2, k0, 0)), .inl v1] ids cG σ (px_r none ids cG res) :=
  pm_ofF (by decide +kernel) (Nat.le_of_ble_eq_true rfl) (e_Bo_unwind h ⟨rfl, rfl, rfl, rfl⟩)
/-! Bo_waitIfOff -/
def F_Bo_waitIfOff (σ : pxS) (k0 : Nat) (v1 : Int32) : Option (pxS) :=
  px_gd v1 12 ((if (σ (3, k0, v1.toNatClampNeg) 2) = 0 then px_gd v1 12 (px_l (px_up σ (3, k0, v1.toNatClampNeg) 2 1) fun σ3 =>
  px_b1 (F_Qu_add σ3 k0 0 v1) fun σ4 =>
  some σ4) else some σ))
set_option maxRecDepth 100000 in
theorem e_Bo_waitIfOff {l : Launch} {ids : List pxI} {Rt : Option pxV → List pxI → pxG → pxS → Prop} {σ : pxS} {k0 : Nat} {v1 : Int32} {res : pxS} (h : F_Bo_waitIfOff σ k0 v1 = some res) (hR : Rt none ids cG res) : pw l (px_R 2) y_Bo_waitIfOff c_Bo_waitIfOff 2 none 0 [(0, .inr (some (2, k0, 0))), (1, .inl v1)] [] ids cG σ 0 0 Rt := by
  unfold F_Bo_waitIfOff at h
  refine pw_aload_n 0 (px_at td_Bo_waitIfOff 0 rfl) rfl rfl ?_
  refine pw_getf (v := .inr (some (9, k0, 0))) (px_at td_Bo_waitIfOff 1 rfl) lf_Bo_11 rfl rfl rfl ?_
  refine pw_iload_n 1 (px_at td_Bo_waitIfOff 2 rfl) rfl rfl ?_
  obtain ⟨hi1, h⟩ := px_gd_e h
  refine pw_aald (r := (3, k0, v1.toNatClampNeg)) (px_at td_Bo_waitIfOff 3 rfl) rfl (fun _ => rfl) hi1 rfl ?_
  refine pw_getf (v := .inl (σ (3, k0, v1.toNatClampNeg) 2)) (px_at td_Bo_waitIfOff 4 rfl) lf_Bo_85 rfl rfl rfl ?_
  rcases px_ite h with ⟨hc5, h⟩ | ⟨hc5, h⟩
  · refine pw_if_ne 30 (px_at td_Bo_waitIfOff 5 rfl) (by decide) (fun hn => absurd hc5 hn) (fun _ => ?_)
    refine pw_aload_n 0 (px_at td_Bo_waitIfOff 6 rfl) rfl rfl ?_
    refine pw_getf (v := .inr (some (9, k0, 0))) (px_at td_Bo_waitIfOff 7 rfl) lf_Bo_11 rfl rfl rfl ?_
    refine pw_iload_n 1 (px_at td_Bo_waitIfOff 8 rfl) rfl rfl ?_
    obtain ⟨hi2, h⟩ := px_gd_e h
    refine pw_aald (r := (3, k0, v1.toNatClampNeg)) (px_at td_Bo_waitIfOff 9 rfl) rfl (fun _ => rfl) hi2 rfl ?_
    refine pw_iconst (v := 1) (px_at td_Bo_waitIfOff 10 rfl) (by decide) ?_
    obtain ⟨σ3, hσ3, h⟩ := px_l_e h
    refine pw_puti (px_at td_Bo_waitIfOff 11 rfl) lw_Bo_85 rfl rfl (pw_s hσ3 ?_)
    refine pw_aload_n 0 (px_at td_Bo_waitIfOff 12 rfl) rfl rfl ?_
    refine pw_getf (v := .inr (some (4, k0, 0))) (px_at td_Bo_waitIfOff 13 rfl) lf_Bo_20 rfl rfl rfl ?_
    refine pw_iload_n 1 (px_at td_Bo_waitIfOff 14 rfl) rfl rfl ?_
    obtain ⟨σ4, hk4, h⟩ := px_b1_e h
    refine pw_cV0 (4, k0, 0) [.inl v1] [] (px_at td_Bo_waitIfOff 15 rfl) lV_Bo_148 rfl rfl rfl (Nat.le_of_ble_eq_true rfl) (by decide) (k_Qu_add hk4) ?_
    obtain rfl := Option.some.inj h
    exact pw_vret (px_at td_Bo_waitIfOff 16 rfl) rfl (Nat.le_refl 0) (Nat.le_refl 0) hR
  · refine pw_if_ne 30 (px_at td_Bo_waitIfOff 5 rfl) (by decide) (fun _ => ?_) (fun hn => absurd hn hc5)
    obtain rfl := Option.some.inj h
    exact pw_vret (px_at td_Bo_waitIfOff 16 rfl) rfl (Nat.le_refl 0) (Nat.le_refl 0) hR
theorem k_Bo_waitIfOff {l : Launch} {ids : List pxI} {σ : pxS} {k0 : Nat} {v1 : Int32} {res : pxS} (h : F_Bo_waitIfOff σ k0 v1 = some res) : pm l y_Bo_waitIfOff c_Bo_waitIfOff 2 none (px_R 2) [.inr (some (2, k0, 0)), .inl v1] ids cG σ (px_r none ids cG res) :=
  pm_ofF (by decide +kernel) (Nat.le_of_ble_eq_true rfl) (e_Bo_waitIfOff h ⟨rfl, rfl, rfl, rfl⟩)
/-! Bo_askRail -/
def F_Bo_askRail (σ : pxS) (k0 : Nat) (v1 : Int32) (v2 : Int32) : Option (pxS) :=
  px_gd v1 12 (px_l (px_up σ (3, k0, v1.toNatClampNeg) 11 (-2)) fun σ2 =>
  px_l (px_up σ2 (3, k0, v1.toNatClampNeg) 10 0) fun σ3 =>
  px_l (px_up σ3 (3, k0, v1.toNatClampNeg) 12 0) fun σ4 =>
  (if v2 = 0 then px_b1 (F_Bo_waitIfOff σ4 k0 v1) fun σ12 =>
  some σ12 else (if (σ4 (3, k0, v1.toNatClampNeg) 2) = 1 then px_l (px_up σ4 (3, k0, v1.toNatClampNeg) 2 0) fun σ9 =>
  px_b1 (F_Qu_drop σ9 k0 0 v1) fun σ10 =>
  some σ10 else px_b1 (F_Bo_isOn σ4 k0 v1) fun r5 =>
  (if r5 = 0 then some σ4 else px_gd v1 12 (px_b1 (F_Bo_unwind σ4 k0 ((1 <<< (v1 &&& 31)) ||| (σ4 (8, (σ4 (2, k0, 0) 4).toNatClampNeg, 10) v1.toNatClampNeg))) fun σ7 =>
  some σ7)))))
set_option maxRecDepth 100000 in
theorem e_Bo_askRail {l : Launch} {ids : List pxI} {Rt : Option pxV → List pxI → pxG → pxS → Prop} {σ : pxS} {k0 : Nat} {v1 : Int32} {v2 : Int32} {res : pxS} (h : F_Bo_askRail σ k0 v1 v2 = some res) (hR : Rt none ids cG res) : pw l (px_R 3) y_Bo_askRail c_Bo_askRail 4 none 0 [(0, .inr (some (2, k0, 0))), (1, .inl v1), (2, .inl v2)] [] ids cG σ 0 0 Rt := by
  unfold F_Bo_askRail at h
  refine pw_aload_n 0 (px_at td_Bo_askRail 0 rfl) rfl rfl ?_
  refine pw_getf (v := .inr (some (9, k0, 0))) (px_at td_Bo_askRail 1 rfl) lf_Bo_11 rfl rfl rfl ?_
  refine pw_iload_n 1 (px_at td_Bo_askRail 2 rfl) rfl rfl ?_
  obtain ⟨hi1, h⟩ := px_gd_e h
  refine pw_aald (r := (3, k0, v1.toNatClampNeg)) (px_at td_Bo_askRail 3 rfl) rfl (fun _ => rfl) hi1 rfl ?_
  refine pw_astore_n (L' := [(3, .inr (some (3, k0, v1.toNatClampNeg))), (0, .inr (some (2, k0, 0))), (1, .inl v1), (2, .inl v2)]) (px_at td_Bo_askRail 4 rfl) rfl (by decide) rfl ?_
  refine pw_aload_n 0 (px_at td_Bo_askRail 5 rfl) rfl rfl ?_
  refine pw_bipush (v := (-2)) (px_at td_Bo_askRail 6 rfl) (by decide) ?_
  obtain ⟨σ2, hσ2, h⟩ := px_l_e h
  refine pw_puti (px_at td_Bo_askRail 7 rfl) lw_Bo_113 rfl rfl (pw_s hσ2 ?_)
  refine pw_aload_n 0 (px_at td_Bo_askRail 8 rfl) rfl rfl ?_
  refine pw_iconst (v := 0) (px_at td_Bo_askRail 9 rfl) (by decide) ?_
  obtain ⟨σ3, hσ3, h⟩ := px_l_e h
  refine pw_puti (px_at td_Bo_askRail 10 rfl) lw_Bo_125 rfl rfl (pw_s hσ3 ?_)
  refine pw_aload_n 0 (px_at td_Bo_askRail 11 rfl) rfl rfl ?_
  refine pw_iconst (v := 0) (px_at td_Bo_askRail 12 rfl) (by decide) ?_
  obtain ⟨σ4, hσ4, h⟩ := px_l_e h
  refine pw_putz (px_at td_Bo_askRail 13 rfl) lw_Bo_128 rfl rfl (by decide) (pw_s hσ4 ?_)
  refine pw_iload_n 3 (px_at td_Bo_askRail 14 rfl) rfl rfl ?_
  rcases px_ite h with ⟨hc13, h⟩ | ⟨hc13, h⟩
  · refine pw_if_ne 35 (px_at td_Bo_askRail 15 rfl) (by decide) (fun hn => absurd hc13 hn) (fun _ => ?_)
    refine pw_aload_n 1 (px_at td_Bo_askRail 16 rfl) rfl rfl ?_
    refine pw_iload_n 2 (px_at td_Bo_askRail 17 rfl) rfl rfl ?_
    obtain ⟨σ12, hk12, h⟩ := px_b1_e h
    refine pw_cV0 (2, k0, 0) [.inl v1] [] (px_at td_Bo_askRail 18 rfl) lV_Bo_132 rfl rfl rfl (Nat.le_of_ble_eq_true rfl) (by decide) (k_Bo_waitIfOff hk12) ?_
    refine pw_goto 84 (px_at td_Bo_askRail 19 rfl) (by decide) ?_
    obtain rfl := Option.some.inj h
    exact pw_vret (px_at td_Bo_askRail 47 rfl) rfl (Nat.le_refl 0) (Nat.le_refl 0) hR
  · refine pw_if_ne 35 (px_at td_Bo_askRail 15 rfl) (by decide) (fun _ => ?_) (fun hn => absurd hn hc13)
    refine pw_aload_n 0 (px_at td_Bo_askRail 20 rfl) rfl rfl ?_
    refine pw_getf (v := .inl (σ4 (3, k0, v1.toNatClampNeg) 2)) (px_at td_Bo_askRail 21 rfl) lf_Bo_85 rfl rfl rfl ?_
    refine pw_iconst (v := 1) (px_at td_Bo_askRail 22 rfl) (by decide) ?_
    rcases px_ite h with ⟨hc11, h⟩ | ⟨hc11, h⟩
    · refine pw_icmp_ne 59 (px_at td_Bo_askRail 23 rfl) (by decide) (fun hn => absurd hc11 hn) (fun _ => ?_)
      refine pw_aload_n 0 (px_at td_Bo_askRail 24 rfl) rfl rfl ?_
      refine pw_iconst (v := 0) (px_at td_Bo_askRail 25 rfl) (by decide) ?_
      obtain ⟨σ9, hσ9, h⟩ := px_l_e h
      refine pw_puti (px_at td_Bo_askRail 26 rfl) lw_Bo_85 rfl rfl (pw_s hσ9 ?_)
      refine pw_aload_n 1 (px_at td_Bo_askRail 27 rfl) rfl rfl ?_
      refine pw_getf (v := .inr (some (4, k0, 0))) (px_at td_Bo_askRail 28 rfl) lf_Bo_20 rfl rfl rfl ?_
      refine pw_iload_n 2 (px_at td_Bo_askRail 29 rfl) rfl rfl ?_
      obtain ⟨σ10, hk10, h⟩ := px_b1_e h
      refine pw_cV0 (4, k0, 0) [.inl v1] [] (px_at td_Bo_askRail 30 rfl) lV_Bo_136 rfl rfl rfl (Nat.le_of_ble_eq_true rfl) (by decide) (k_Qu_drop hk10) ?_
      refine pw_goto 84 (px_at td_Bo_askRail 31 rfl) (by decide) ?_
      obtain rfl := Option.some.inj h
      exact pw_vret (px_at td_Bo_askRail 47 rfl) rfl (Nat.le_refl 0) (Nat.le_refl 0) hR
    · refine pw_icmp_ne 59 (px_at td_Bo_askRail 23 rfl) (by decide) (fun _ => ?_) (fun hn => absurd hn hc11)
      refine pw_aload_n 1 (px_at td_Bo_askRail 32 rfl) rfl rfl ?_
      refine pw_iload_n 2 (px_at td_Bo_askRail 33 rfl) rfl rfl ?_
      obtain ⟨r5, hk5, h⟩ := px_b1_e h
      refine pw_cV1 (2, k0, 0) [.inl v1] [] (px_at td_Bo_askRail 34 rfl) lV_Bo_139 rfl rfl rfl (Nat.le_of_ble_eq_true rfl) (by decide) (k_Bo_isOn hk5) ?_
      rcases px_ite h with ⟨hc8, h⟩ | ⟨hc8, h⟩
      · refine pw_if_eq 84 (px_at td_Bo_askRail 35 rfl) (by decide) (fun _ => ?_) (fun hn => absurd hc8 hn)
        obtain rfl := Option.some.inj h
        exact pw_vret (px_at td_Bo_askRail 47 rfl) rfl (Nat.le_refl 0) (Nat.le_refl 0) hR
      · refine pw_if_eq 84 (px_at td_Bo_askRail 35 rfl) (by decide) (fun hn => absurd hn hc8) (fun _ => ?_)
        refine pw_aload_n 1 (px_at td_Bo_askRail 36 rfl) rfl rfl ?_
        refine pw_iconst (v := 1) (px_at td_Bo_askRail 37 rfl) (by decide) ?_
        refine pw_iload_n 2 (px_at td_Bo_askRail 38 rfl) rfl rfl ?_
        refine pw_ishl (px_at td_Bo_askRail 39 rfl) ?_
        refine pw_aload_n 1 (px_at td_Bo_askRail 40 rfl) rfl rfl ?_
        refine pw_getf (v := .inr (some (1, (σ4 (2, k0, 0) 4).toNatClampNeg, 0))) (px_at td_Bo_askRail 41 rfl) lf_Bo_31 rfl rfl rfl ?_
        refine pw_getf (v := .inr (some (8, (σ4 (2, k0, 0) 4).toNatClampNeg, 10))) (px_at td_Bo_askRail 42 rfl) lf_Bo_142 rfl rfl rfl ?_
        refine pw_iload_n 2 (px_at td_Bo_askRail 43 rfl) rfl rfl ?_
        obtain ⟨hi6, h⟩ := px_gd_e h
        refine pw_ial (px_at td_Bo_askRail 44 rfl) rfl hi6 rfl ?_
        refine pw_ior (px_at td_Bo_askRail 45 rfl) ?_
        obtain ⟨σ7, hk7, h⟩ := px_b1_e h
        refine pw_cV0 (2, k0, 0) [.inl ((1 <<< (v1 &&& 31)) ||| (σ4 (8, (σ4 (2, k0, 0) 4).toNatClampNeg, 10) v1.toNatClampNeg))] [] (px_at td_Bo_askRail 46 rfl) lV_Bo_145 rfl rfl rfl (Nat.le_of_ble_eq_true rfl) (by decide) (k_Bo_unwind hk7) ?_
        obtain rfl := Option.some.inj h
        exact pw_vret (px_at td_Bo_askRail 47 rfl) rfl (Nat.le_refl 0) (Nat.le_refl 0) hR
theorem k_Bo_askRail {l : Launch} {ids : List pxI} {σ : pxS} {k0 : Nat} {v1 : Int32} {v2 : Int32} {res : pxS} (h : F_Bo_askRail σ k0 v1 v2 = some res) : pm l y_Bo_askRail c_Bo_askRail 4 none (px_R 3) [.inr (some (2, k0, 0)), .inl v1, .inl v2] ids cG σ (px_r none ids cG res) :=
  pm_ofF (by decide +kernel) (Nat.le_of_ble_eq_true rfl) (e_Bo_askRail h ⟨rfl, rfl, rfl, rfl⟩)
/-! Bo_failSequence -/
def F_Bo_failSequence (σ : pxS) (k0 : Nat) : Option (pxS) :=
  px_l (px_up σ (2, k0, 0) 7 3) fun σ1 =>
  px_b1 (F_Bo_write σ1 k0 (-2) 5) fun σ2 =>
  some σ2
set_option maxRecDepth 100000 in
theorem e_Bo_failSequence {l : Launch} {ids : List pxI} {Rt : Option pxV → List pxI → pxG → pxS → Prop} {σ : pxS} {k0 : Nat} {res : pxS} (h : F_Bo_failSequence σ k0 = some res) (hR : Rt none ids cG res) : pw l (px_R 3) y_Bo_failSequence c_Bo_failSequence 1 none 0 [(0, .inr (some (2, k0, 0)))] [] ids cG σ 0 0 Rt := by
  unfold F_Bo_failSequence at h
  refine pw_aload_n 0 (px_at td_Bo_failSequence 0 rfl) rfl rfl ?_
  refine pw_iconst (v := 3) (px_at td_Bo_failSequence 1 rfl) (by decide) ?_
  obtain ⟨σ1, hσ1, h⟩ := px_l_e h
  refine pw_puti (px_at td_Bo_failSequence 2 rfl) lw_Bo_58 rfl rfl (pw_s hσ1 ?_)
  refine pw_aload_n 0 (px_at td_Bo_failSequence 3 rfl) rfl rfl ?_
  refine pw_bipush (v := (-2)) (px_at td_Bo_failSequence 4 rfl) (by decide) ?_
  refine pw_iconst (v := 5) (px_at td_Bo_failSequence 5 rfl) (by decide) ?_
  obtain ⟨σ2, hk2, h⟩ := px_b1_e h
  refine pw_cV0 (2, k0, 0) [.inl (-2), .inl 5] [] (px_at td_Bo_failSequence 6 rfl) lV_Bo_161 rfl rfl rfl (Nat.le_of_ble_eq_true rfl) (by decide) (k_Bo_write hk2) ?_
  obtain rfl := Option.some.inj h
  exact pw_vret (px_at td_Bo_failSequence 7 rfl) rfl (Nat.le_refl 0) (Nat.le_refl 0) hR
theorem k_Bo_failSequence {l : Launch} {ids : List pxI} {σ : pxS} {k0 : Nat} {res : pxS} (h : F_Bo_failSequence σ k0 = some res) : pm l y_Bo_failSequence c_Bo_failSequence 1 none (px_R 3) [.inr (some (2, k0, 0))] ids cG σ (px_r none ids cG res) :=
  pm_ofF (by decide +kernel) (Nat.le_of_ble_eq_true rfl) (e_Bo_failSequence h ⟨rfl, rfl, rfl, rfl⟩)
/-! Bo_trip -/
def F_Bo_trip (σ : pxS) (k0 : Nat) (v1 : Int32) : Option (pxS) :=
  px_gd v1 12 (px_l (px_up σ (3, k0, v1.toNatClampNeg) 9 ((σ (3, k0, v1.toNatClampNeg) 9) + 1)) fun σ2 =>
  px_b1 (F_Bo_write σ2 k0 v1 2) fun σ3 =>
  px_gd v1 12 (px_b1 (F_Bo_unwind σ3 k0 ((1 <<< (v1 &&& 31)) ||| (σ3 (8, (σ3 (2, k0, 0) 4).toNatClampNeg, 10) v1.toNatClampNeg))) fun σ5 =>
  px_gd v1 12 (px_l (px_up σ5 (3, k0, v1.toNatClampNeg) 12 1) fun σ7 =>
  (if (σ7 (2, k0, 0) 7) = 1 then px_b1 (F_Bo_failSequence σ7 k0) fun σ8 =>
  some σ8 else some σ7))))
set_option maxRecDepth 100000 in
theorem e_Bo_trip {l : Launch} {ids : List pxI} {Rt : Option pxV → List pxI → pxG → pxS → Prop} {σ : pxS} {k0 : Nat} {v1 : Int32} {res : pxS} (h : F_Bo_trip σ k0 v1 = some res) (hR : Rt none ids cG res) : pw l (px_R 4) y_Bo_trip c_Bo_trip 2 none 0 [(0, .inr (some (2, k0, 0))), (1, .inl v1)] [] ids cG σ 0 0 Rt := by
  unfold F_Bo_trip at h
  refine pw_aload_n 0 (px_at td_Bo_trip 0 rfl) rfl rfl ?_
  refine pw_getf (v := .inr (some (9, k0, 0))) (px_at td_Bo_trip 1 rfl) lf_Bo_11 rfl rfl rfl ?_
  refine pw_iload_n 1 (px_at td_Bo_trip 2 rfl) rfl rfl ?_
  obtain ⟨hi1, h⟩ := px_gd_e h
  refine pw_aald (r := (3, k0, v1.toNatClampNeg)) (px_at td_Bo_trip 3 rfl) rfl (fun _ => rfl) hi1 rfl ?_
  refine pw_dup (px_at td_Bo_trip 4 rfl) ?_
  refine pw_getf (v := .inl (σ (3, k0, v1.toNatClampNeg) 9)) (px_at td_Bo_trip 5 rfl) lf_Bo_101 rfl rfl rfl ?_
  refine pw_iconst (v := 1) (px_at td_Bo_trip 6 rfl) (by decide) ?_
  refine pw_iadd (px_at td_Bo_trip 7 rfl) ?_
  obtain ⟨σ2, hσ2, h⟩ := px_l_e h
  refine pw_puti (px_at td_Bo_trip 8 rfl) lw_Bo_101 rfl rfl (pw_s hσ2 ?_)
  refine pw_aload_n 0 (px_at td_Bo_trip 9 rfl) rfl rfl ?_
  refine pw_iload_n 1 (px_at td_Bo_trip 10 rfl) rfl rfl ?_
  refine pw_iconst (v := 2) (px_at td_Bo_trip 11 rfl) (by decide) ?_
  obtain ⟨σ3, hk3, h⟩ := px_b1_e h
  refine pw_cV0 (2, k0, 0) [.inl v1, .inl 2] [] (px_at td_Bo_trip 12 rfl) lV_Bo_161 rfl rfl rfl (Nat.le_of_ble_eq_true rfl) (by decide) (k_Bo_write hk3) ?_
  refine pw_aload_n 0 (px_at td_Bo_trip 13 rfl) rfl rfl ?_
  refine pw_iconst (v := 1) (px_at td_Bo_trip 14 rfl) (by decide) ?_
  refine pw_iload_n 1 (px_at td_Bo_trip 15 rfl) rfl rfl ?_
  refine pw_ishl (px_at td_Bo_trip 16 rfl) ?_
  refine pw_aload_n 0 (px_at td_Bo_trip 17 rfl) rfl rfl ?_
  refine pw_getf (v := .inr (some (1, (σ3 (2, k0, 0) 4).toNatClampNeg, 0))) (px_at td_Bo_trip 18 rfl) lf_Bo_31 rfl rfl rfl ?_
  refine pw_getf (v := .inr (some (8, (σ3 (2, k0, 0) 4).toNatClampNeg, 10))) (px_at td_Bo_trip 19 rfl) lf_Bo_142 rfl rfl rfl ?_
  refine pw_iload_n 1 (px_at td_Bo_trip 20 rfl) rfl rfl ?_
  obtain ⟨hi4, h⟩ := px_gd_e h
  refine pw_ial (px_at td_Bo_trip 21 rfl) rfl hi4 rfl ?_
  refine pw_ior (px_at td_Bo_trip 22 rfl) ?_
  obtain ⟨σ5, hk5, h⟩ := px_b1_e h
  refine pw_cV0 (2, k0, 0) [.inl ((1 <<< (v1 &&& 31)) ||| (σ3 (8, (σ3 (2, k0, 0) 4).toNatClampNeg, 10) v1.toNatClampNeg))] [] (px_at td_Bo_trip 23 rfl) lV_Bo_145 rfl rfl rfl (Nat.le_of_ble_eq_true rfl) (by decide) (k_Bo_unwind hk5) ?_
  refine pw_aload_n 0 (px_at td_Bo_trip 24 rfl) rfl rfl ?_
  refine pw_getf (v := .inr (some (9, k0, 0))) (px_at td_Bo_trip 25 rfl) lf_Bo_11 rfl rfl rfl ?_
  refine pw_iload_n 1 (px_at td_Bo_trip 26 rfl) rfl rfl ?_
  obtain ⟨hi6, h⟩ := px_gd_e h
  refine pw_aald (r := (3, k0, v1.toNatClampNeg)) (px_at td_Bo_trip 27 rfl) rfl (fun _ => rfl) hi6 rfl ?_
  refine pw_iconst (v := 1) (px_at td_Bo_trip 28 rfl) (by decide) ?_
  obtain ⟨σ7, hσ7, h⟩ := px_l_e h
  refine pw_putz (px_at td_Bo_trip 29 rfl) lw_Bo_128 rfl rfl (by decide) (pw_s hσ7 ?_)
  refine pw_aload_n 0 (px_at td_Bo_trip 30 rfl) rfl rfl ?_
  refine pw_getf (v := .inl (σ7 (2, k0, 0) 7)) (px_at td_Bo_trip 31 rfl) lf_Bo_58 rfl rfl rfl ?_
  refine pw_iconst (v := 1) (px_at td_Bo_trip 32 rfl) (by decide) ?_
  rcases px_ite h with ⟨hc9, h⟩ | ⟨hc9, h⟩
  · refine pw_icmp_ne 60 (px_at td_Bo_trip 33 rfl) (by decide) (fun hn => absurd hc9 hn) (fun _ => ?_)
    refine pw_aload_n 0 (px_at td_Bo_trip 34 rfl) rfl rfl ?_
    obtain ⟨σ8, hk8, h⟩ := px_b1_e h
    refine pw_cV0 (2, k0, 0) [] [] (px_at td_Bo_trip 35 rfl) lV_Bo_164 rfl rfl rfl (Nat.le_of_ble_eq_true rfl) (by decide) (k_Bo_failSequence hk8) ?_
    obtain rfl := Option.some.inj h
    exact pw_vret (px_at td_Bo_trip 36 rfl) rfl (Nat.le_refl 0) (Nat.le_refl 0) hR
  · refine pw_icmp_ne 60 (px_at td_Bo_trip 33 rfl) (by decide) (fun _ => ?_) (fun hn => absurd hn hc9)
    obtain rfl := Option.some.inj h
    exact pw_vret (px_at td_Bo_trip 36 rfl) rfl (Nat.le_refl 0) (Nat.le_refl 0) hR
theorem k_Bo_trip {l : Launch} {ids : List pxI} {σ : pxS} {k0 : Nat} {v1 : Int32} {res : pxS} (h : F_Bo_trip σ k0 v1 = some res) : pm l y_Bo_trip c_Bo_trip 2 none (px_R 4) [.inr (some (2, k0, 0)), .inl v1] ids cG σ (px_r none ids cG res) :=
  pm_ofF (by decide +kernel) (Nat.le_of_ble_eq_true rfl) (e_Bo_trip h ⟨rfl, rfl, rfl, rfl⟩)
/-! Bo_runFromFirst -/
def F_Bo_runFromFirst (σ : pxS) (k0 : Nat) : Option (pxS) :=
  px_l (px_up σ (2, k0, 0) 7 1) fun σ1 =>
  px_l (px_up σ1 (2, k0, 0) 8 0) fun σ2 =>
  px_l (px_up σ2 (2, k0, 0) 9 0) fun σ3 =>
  some σ3
set_option maxRecDepth 100000 in
theorem e_Bo_runFromFirst {l : Launch} {ids : List pxI} {Rt : Option pxV → List pxI → pxG → pxS → Prop} {σ : pxS} {k0 : Nat} {res : pxS} (h : F_Bo_runFromFirst σ k0 = some res) (hR : Rt none ids cG res) : pw l (px_R 1) y_Bo_runFromFirst c_Bo_runFromFirst 1 none 0 [(0, .inr (some (2, k0, 0)))] [] ids cG σ 0 0 Rt := by
  unfold F_Bo_runFromFirst at h
  refine pw_aload_n 0 (px_at td_Bo_runFromFirst 0 rfl) rfl rfl ?_
  refine pw_iconst (v := 1) (px_at td_Bo_runFromFirst 1 rfl) (by decide) ?_
  obtain ⟨σ1, hσ1, h⟩ := px_l_e h
  refine pw_puti (px_at td_Bo_runFromFirst 2 rfl) lw_Bo_58 rfl rfl (pw_s hσ1 ?_)
  refine pw_aload_n 0 (px_at td_Bo_runFromFirst 3 rfl) rfl rfl ?_
  refine pw_iconst (v := 0) (px_at td_Bo_runFromFirst 4 rfl) (by decide) ?_
  obtain ⟨σ2, hσ2, h⟩ := px_l_e h
  refine pw_puti (px_at td_Bo_runFromFirst 5 rfl) lw_Bo_61 rfl rfl (pw_s hσ2 ?_)
  refine pw_aload_n 0 (px_at td_Bo_runFromFirst 6 rfl) rfl rfl ?_
  refine pw_iconst (v := 0) (px_at td_Bo_runFromFirst 7 rfl) (by decide) ?_
  obtain ⟨σ3, hσ3, h⟩ := px_l_e h
  refine pw_puti (px_at td_Bo_runFromFirst 8 rfl) lw_Bo_64 rfl rfl (pw_s hσ3 ?_)
  obtain rfl := Option.some.inj h
  exact pw_vret (px_at td_Bo_runFromFirst 9 rfl) rfl (Nat.le_refl 0) (Nat.le_refl 0) hR
theorem k_Bo_runFromFirst {l : Launch} {ids : List pxI} {σ : pxS} {k0 : Nat} {res : pxS} (h : F_Bo_runFromFirst σ k0 = some res) : pm l y_Bo_runFromFirst c_Bo_runFromFirst 1 none (px_R 1) [.inr (some (2, k0, 0))] ids cG σ (px_r none ids cG res) :=
  pm_ofF (by decide +kernel) (Nat.le_of_ble_eq_true rfl) (e_Bo_runFromFirst h ⟨rfl, rfl, rfl, rfl⟩)
/-! Bo_comeAgain -/
def Bo_comeAgain_n66 (σ : pxS) (k0 : Nat) (v1 : Int32) : Option ((Int32 × pxS) ⊕ (pxS)) :=
  some (.inl ((v1 + 1), σ))
set_option maxRecDepth 100000 in
theorem Bo_comeAgain_n66_l {l : Launch} {ids : List pxI} {Rt : Option pxV → List pxI → pxG → pxS → Prop} {σ : pxS} {k0 : Nat} {v1 : Int32} {o : (Int32 × pxS) ⊕ (pxS)} (h : Bo_comeAgain_n66 σ k0 v1 = some o) (hC : ∀ s, o = .inl s → pw l (px_R 3) y_Bo_comeAgain c_Bo_comeAgain 3 none 2 [(0, .inr (some (2, k0, 0))), (1, .inl s.1)] [] ids cG s.2 0 0 Rt) (hX0 : ∀ e, o = .inr e → pw l (px_R 3) y_Bo_comeAgain c_Bo_comeAgain 3 none 72 [] [] ids cG e 0 0 Rt) : pw l (px_R 3) y_Bo_comeAgain c_Bo_comeAgain 3 none 66 [(0, .inr (some (2, k0, 0))), (1, .inl v1)] [] ids cG σ 0 0 Rt := by
  unfold Bo_comeAgain_n66 at h
  refine pw_iinc (q := 1) (v := (v1 + 1)) (L' := [(1, .inl (v1 + 1)), (0, .inr (some (2, k0, 0)))]) (px_at td_Bo_comeAgain 36 rfl) rfl rfl (by decide) rfl ?_
  refine pw_goto 2 (px_at td_Bo_comeAgain 37 rfl) (by decide) ?_
  refine pw_L [(0, .inr (some (2, k0, 0))), (1, .inl (v1 + 1))] [1, 0] rfl ?_
  exact hC ((v1 + 1), σ) (Option.some.inj h).symm
def Bo_comeAgain_n2 (σ : pxS) (k0 : Nat) (v1 : Int32) : Option ((Int32 × pxS) ⊕ (pxS)) :=
  (if (σ (1, (σ (2, k0, 0) 4).toNatClampNeg, 0) 0) ≤ v1 then some (.inr σ) else px_gd v1 12 ((if (σ (3, k0, v1.toNatClampNeg) 11) = (σ (2, k0, 0) 5) then px_l (px_up σ (3, k0, v1.toNatClampNeg) 11 (-2)) fun σ2 =>
  (if (σ2 (3, k0, v1.toNatClampNeg) 2) = 0 then px_b1 (F_Bo_waitIfOff σ2 k0 v1) fun σ3 =>
  px_l (px_up σ3 (3, k0, v1.toNatClampNeg) 10 ((σ3 (3, k0, v1.toNatClampNeg) 10) + 1)) fun σ4 =>
  px_b1 (F_Bo_write σ4 k0 v1 7) fun σ5 =>
  Bo_comeAgain_n66 σ5 k0 v1 else Bo_comeAgain_n66 σ2 k0 v1) else Bo_comeAgain_n66 σ k0 v1)))
set_option maxRecDepth 100000 in
theorem Bo_comeAgain_n2_l {l : Launch} {ids : List pxI} {Rt : Option pxV → List pxI → pxG → pxS → Prop} {σ : pxS} {k0 : Nat} {v1 : Int32} {o : (Int32 × pxS) ⊕ (pxS)} (h : Bo_comeAgain_n2 σ k0 v1 = some o) (hC : ∀ s, o = .inl s → pw l (px_R 3) y_Bo_comeAgain c_Bo_comeAgain 3 none 2 [(0, .inr (some (2, k0, 0))), (1, .inl s.1)] [] ids cG s.2 0 0 Rt) (hX0 : ∀ e, o = .inr e → pw l (px_R 3) y_Bo_comeAgain c_Bo_comeAgain 3 none 72 [] [] ids cG e 0 0 Rt) : pw l (px_R 3) y_Bo_comeAgain c_Bo_comeAgain 3 none 2 [(0, .inr (some (2, k0, 0))), (1, .inl v1)] [] ids cG σ 0 0 Rt := by
  unfold Bo_comeAgain_n2 at h
  refine pw_iload_n 1 (px_at td_Bo_comeAgain 2 rfl) rfl rfl ?_
  refine pw_aload_n 0 (px_at td_Bo_comeAgain 3 rfl) rfl rfl ?_
  refine pw_getf (v := .inr (some (1, (σ (2, k0, 0) 4).toNatClampNeg, 0))) (px_at td_Bo_comeAgain 4 rfl) lf_Bo_31 rfl rfl rfl ?_
  refine pw_getf (v := .inl (σ (1, (σ (2, k0, 0) 4).toNatClampNeg, 0) 0)) (px_at td_Bo_comeAgain 5 rfl) lf_Bo_70 rfl rfl rfl ?_
  rcases px_ite h with ⟨hc8, h⟩ | ⟨hc8, h⟩
  · refine pw_icmp_ge 72 (px_at td_Bo_comeAgain 6 rfl) (by decide) (fun _ => ?_) (fun hn => absurd hc8 hn)
    refine pw_L [] [] rfl ?_
    exact hX0 σ (Option.some.inj h).symm
  · refine pw_icmp_ge 72 (px_at td_Bo_comeAgain 6 rfl) (by decide) (fun hn => absurd hn hc8) (fun _ => ?_)
    refine pw_aload_n 0 (px_at td_Bo_comeAgain 7 rfl) rfl rfl ?_
    refine pw_getf (v := .inr (some (9, k0, 0))) (px_at td_Bo_comeAgain 8 rfl) lf_Bo_11 rfl rfl rfl ?_
    refine pw_iload_n 1 (px_at td_Bo_comeAgain 9 rfl) rfl rfl ?_
    obtain ⟨hi1, h⟩ := px_gd_e h
    refine pw_aald (r := (3, k0, v1.toNatClampNeg)) (px_at td_Bo_comeAgain 10 rfl) rfl (fun _ => rfl) hi1 rfl ?_
    refine pw_astore_n (L' := [(2, .inr (some (3, k0, v1.toNatClampNeg))), (0, .inr (some (2, k0, 0))), (1, .inl v1)]) (px_at td_Bo_comeAgain 11 rfl) rfl (by decide) rfl ?_
    refine pw_aload_n 0 (px_at td_Bo_comeAgain 12 rfl) rfl rfl ?_
    refine pw_getf (v := .inl (σ (3, k0, v1.toNatClampNeg) 11)) (px_at td_Bo_comeAgain 13 rfl) lf_Bo_113 rfl rfl rfl ?_
    refine pw_aload_n 1 (px_at td_Bo_comeAgain 14 rfl) rfl rfl ?_
    refine pw_getf (v := .inl (σ (2, k0, 0) 5)) (px_at td_Bo_comeAgain 15 rfl) lf_Bo_51 rfl rfl rfl ?_
    rcases px_ite h with ⟨hc7, h⟩ | ⟨hc7, h⟩
    · refine pw_icmp_ne 66 (px_at td_Bo_comeAgain 16 rfl) (by decide) (fun hn => absurd hc7 hn) (fun _ => ?_)
      refine pw_aload_n 0 (px_at td_Bo_comeAgain 17 rfl) rfl rfl ?_
      refine pw_bipush (v := (-2)) (px_at td_Bo_comeAgain 18 rfl) (by decide) ?_
      obtain ⟨σ2, hσ2, h⟩ := px_l_e h
      refine pw_puti (px_at td_Bo_comeAgain 19 rfl) lw_Bo_113 rfl rfl (pw_s hσ2 ?_)
      refine pw_aload_n 0 (px_at td_Bo_comeAgain 20 rfl) rfl rfl ?_
      refine pw_getf (v := .inl (σ2 (3, k0, v1.toNatClampNeg) 2)) (px_at td_Bo_comeAgain 21 rfl) lf_Bo_85 rfl rfl rfl ?_
      rcases px_ite h with ⟨hc6, h⟩ | ⟨hc6, h⟩
      · refine pw_if_ne 66 (px_at td_Bo_comeAgain 22 rfl) (by decide) (fun hn => absurd hc6 hn) (fun _ => ?_)
        refine pw_aload_n 1 (px_at td_Bo_comeAgain 23 rfl) rfl rfl ?_
        refine pw_iload_n 2 (px_at td_Bo_comeAgain 24 rfl) rfl rfl ?_
        obtain ⟨σ3, hk3, h⟩ := px_b1_e h
        refine pw_cV0 (2, k0, 0) [.inl v1] [] (px_at td_Bo_comeAgain 25 rfl) lV_Bo_132 rfl rfl rfl (Nat.le_of_ble_eq_true rfl) (by decide) (k_Bo_waitIfOff hk3) ?_
        refine pw_aload_n 0 (px_at td_Bo_comeAgain 26 rfl) rfl rfl ?_
        refine pw_dup (px_at td_Bo_comeAgain 27 rfl) ?_
        refine pw_getf (v := .inl (σ3 (3, k0, v1.toNatClampNeg) 10)) (px_at td_Bo_comeAgain 28 rfl) lf_Bo_125 rfl rfl rfl ?_
        refine pw_iconst (v := 1) (px_at td_Bo_comeAgain 29 rfl) (by decide) ?_
        refine pw_iadd (px_at td_Bo_comeAgain 30 rfl) ?_
        obtain ⟨σ4, hσ4, h⟩ := px_l_e h
        refine pw_puti (px_at td_Bo_comeAgain 31 rfl) lw_Bo_125 rfl rfl (pw_s hσ4 ?_)
        refine pw_aload_n 1 (px_at td_Bo_comeAgain 32 rfl) rfl rfl ?_
        refine pw_iload_n 2 (px_at td_Bo_comeAgain 33 rfl) rfl rfl ?_
        refine pw_bipush (v := 7) (px_at td_Bo_comeAgain 34 rfl) (by decide) ?_
        obtain ⟨σ5, hk5, h⟩ := px_b1_e h
        refine pw_cV0 (2, k0, 0) [.inl v1, .inl 7] [] (px_at td_Bo_comeAgain 35 rfl) lV_Bo_161 rfl rfl rfl (Nat.le_of_ble_eq_true rfl) (by decide) (k_Bo_write hk5) ?_
        refine pw_L [(0, .inr (some (2, k0, 0))), (1, .inl v1)] [1, 2] rfl ?_
        exact Bo_comeAgain_n66_l h hC hX0
      · refine pw_if_ne 66 (px_at td_Bo_comeAgain 22 rfl) (by decide) (fun _ => ?_) (fun hn => absurd hn hc6)
        refine pw_L [(0, .inr (some (2, k0, 0))), (1, .inl v1)] [1, 2] rfl ?_
        exact Bo_comeAgain_n66_l h hC hX0
    · refine pw_icmp_ne 66 (px_at td_Bo_comeAgain 16 rfl) (by decide) (fun _ => ?_) (fun hn => absurd hn hc7)
      refine pw_L [(0, .inr (some (2, k0, 0))), (1, .inl v1)] [1, 2] rfl ?_
      exact Bo_comeAgain_n66_l h hC hX0
def Bo_comeAgain_L2 (k0 : Nat) : (Int32 × pxS) → Option ((Int32 × pxS) ⊕ (pxS)) := fun s => Bo_comeAgain_n2 s.2 k0 s.1
set_option maxRecDepth 100000 in
theorem Bo_comeAgain_L2_l {l : Launch} {ids : List pxI} {Rt : Option pxV → List pxI → pxG → pxS → Prop} {k0 : Nat} {n : Nat} {s : Int32 × pxS} {e : pxS} (h : px_it (Bo_comeAgain_L2 k0) n s = some e) (hX0 : pw l (px_R 3) y_Bo_comeAgain c_Bo_comeAgain 3 none 72 [] [] ids cG e 0 0 Rt) : pw l (px_R 3) y_Bo_comeAgain c_Bo_comeAgain 3 none 2 [(0, .inr (some (2, k0, 0))), (1, .inl s.1)] [] ids cG s.2 0 0 Rt := by
  refine px_it_rule (f := Bo_comeAgain_L2 k0) (C := fun s => pw l (px_R 3) y_Bo_comeAgain c_Bo_comeAgain 3 none 2 [(0, .inr (some (2, k0, 0))), (1, .inl s.1)] [] ids cG s.2 0 0 Rt) (X := fun e => (pw l (px_R 3) y_Bo_comeAgain c_Bo_comeAgain 3 none 72 [] [] ids cG e 0 0 Rt)) ?_ ?_ n s e h hX0
  · intro s s1 hf hC
    exact Bo_comeAgain_n2_l hf (fun s2 hs => by cases hs; exact hC) (fun e he => by cases he)
  · intro s e hf hX
    exact Bo_comeAgain_n2_l hf (fun s2 hs => by cases hs) (fun e1 he => by cases he; exact hX)
def F_Bo_comeAgain (σ : pxS) (k0 : Nat) : Option (pxS) :=
  px_b1 (px_it (Bo_comeAgain_L2 k0) px_N (0, σ)) fun e9 =>
  some e9
set_option maxRecDepth 100000 in
theorem e_Bo_comeAgain {l : Launch} {ids : List pxI} {Rt : Option pxV → List pxI → pxG → pxS → Prop} {σ : pxS} {k0 : Nat} {res : pxS} (h : F_Bo_comeAgain σ k0 = some res) (hR : Rt none ids cG res) : pw l (px_R 3) y_Bo_comeAgain c_Bo_comeAgain 3 none 0 [(0, .inr (some (2, k0, 0)))] [] ids cG σ 0 0 Rt := by
  unfold F_Bo_comeAgain at h
  refine pw_iconst (v := 0) (px_at td_Bo_comeAgain 0 rfl) (by decide) ?_
  refine pw_istore_n (L' := [(1, .inl 0), (0, .inr (some (2, k0, 0)))]) (px_at td_Bo_comeAgain 1 rfl) rfl (by decide) rfl ?_
  obtain ⟨e9, he9, h⟩ := px_b1_e h
  refine pw_L [(0, .inr (some (2, k0, 0))), (1, .inl 0)] [1, 0] rfl ?_
  refine Bo_comeAgain_L2_l he9 ?_
  obtain rfl := Option.some.inj h
  exact pw_vret (px_at td_Bo_comeAgain 38 rfl) rfl (Nat.le_refl 0) (Nat.le_refl 0) hR
theorem k_Bo_comeAgain {l : Launch} {ids : List pxI} {σ : pxS} {k0 : Nat} {res : pxS} (h : F_Bo_comeAgain σ k0 = some res) : pm l y_Bo_comeAgain c_Bo_comeAgain 3 none (px_R 3) [.inr (some (2, k0, 0))] ids cG σ (px_r none ids cG res) :=
  pm_ofF (by decide +kernel) (Nat.le_of_ble_eq_true rfl) (e_Bo_comeAgain h ⟨rfl, rfl, rfl, rfl⟩)
/-! Bo_takesStep -/
def Bo_takesStep_n150 (σ : pxS)  : Option (Int32 × pxS) :=
  some (0, σ)
set_option maxRecDepth 100000 in
theorem Bo_takesStep_n150_l {l : Launch} {ids : List pxI} {Rt : Option pxV → List pxI → pxG → pxS → Prop} {σ : pxS}  {res : Int32 × pxS} (h : Bo_takesStep_n150 σ  = some res) (hR : Rt (some (.inl res.1)) ids cG res.2) : pw l (px_R 4) y_Bo_takesStep c_Bo_takesStep 4 (some .boolean) 150 [] [] ids cG σ 0 0 Rt := by
  unfold Bo_takesStep_n150 at h
  refine pw_iconst (v := 0) (px_at td_Bo_takesStep 71 rfl) (by decide) ?_
  obtain rfl := Option.some.inj h
  exact pw_zret (px_at td_Bo_takesStep 72 rfl) rfl (by decide) (Nat.le_refl 0) (Nat.le_refl 0) hR
def F_Bo_takesStep (σ : pxS) (k0 : Nat) : Option (Int32 × pxS) :=
  px_gd (σ (2, k0, 0) 8) 24 (px_gd (σ (2, k0, 0) 8) 24 (px_gd (σ (2, k0, 0) 8) 24 ((if (σ (8, (σ (2, k0, 0) 4).toNatClampNeg, 11) (σ (2, k0, 0) 8).toNatClampNeg) = 0 then (if (σ (8, (σ (2, k0, 0) 4).toNatClampNeg, 11) (σ (2, k0, 0) 8).toNatClampNeg) = 1 then px_b1 (F_Bo_askRail σ k0 (σ (8, (σ (2, k0, 0) 4).toNatClampNeg, 12) (σ (2, k0, 0) 8).toNatClampNeg) 1) fun σ13 =>
  some (1, σ13) else px_b1 (F_Bo_askRail σ k0 (σ (8, (σ (2, k0, 0) 4).toNatClampNeg, 12) (σ (2, k0, 0) 8).toNatClampNeg) 0) fun σ12 =>
  some (1, σ12)) else (if (σ (8, (σ (2, k0, 0) 4).toNatClampNeg, 11) (σ (2, k0, 0) 8).toNatClampNeg) = 1 then (if (σ (8, (σ (2, k0, 0) 4).toNatClampNeg, 11) (σ (2, k0, 0) 8).toNatClampNeg) = 1 then px_b1 (F_Bo_askRail σ k0 (σ (8, (σ (2, k0, 0) 4).toNatClampNeg, 12) (σ (2, k0, 0) 8).toNatClampNeg) 1) fun σ16 =>
  some (1, σ16) else px_b1 (F_Bo_askRail σ k0 (σ (8, (σ (2, k0, 0) 4).toNatClampNeg, 12) (σ (2, k0, 0) 8).toNatClampNeg) 0) fun σ15 =>
  some (1, σ15)) else (if (σ (8, (σ (2, k0, 0) 4).toNatClampNeg, 11) (σ (2, k0, 0) 8).toNatClampNeg) = 2 then (if (σ (2, k0, 0) 9) < (σ (8, (σ (2, k0, 0) 4).toNatClampNeg, 13) (σ (2, k0, 0) 8).toNatClampNeg) then px_l (px_up σ (2, k0, 0) 9 ((σ (2, k0, 0) 9) + 1)) fun σ18 =>
  some (0, σ18) else some (1, σ)) else px_b1 (F_Bo_isGood σ k0 (σ (8, (σ (2, k0, 0) 4).toNatClampNeg, 12) (σ (2, k0, 0) 8).toNatClampNeg)) fun r5 =>
  (if r5 = 0 then px_l (px_up σ (2, k0, 0) 9 ((σ (2, k0, 0) 9) + 1)) fun σ6 =>
  (if (σ6 (2, k0, 0) 9) < (σ (8, (σ (2, k0, 0) 4).toNatClampNeg, 13) (σ (2, k0, 0) 8).toNatClampNeg) then Bo_takesStep_n150 σ6  else px_b1 (F_Bo_failSequence σ6 k0) fun σ7 =>
  px_b1 (F_Pl_allRails σ7 (σ7 (2, k0, 0) 4)) fun r8 =>
  px_b1 (F_Bo_unwind σ7 k0 r8) fun σ9 =>
  Bo_takesStep_n150 σ9 ) else some (1, σ))))))))
set_option maxRecDepth 100000 in
theorem e_Bo_takesStep {l : Launch} {ids : List pxI} {Rt : Option pxV → List pxI → pxG → pxS → Prop} {σ : pxS} {k0 : Nat} {res : Int32 × pxS} (h : F_Bo_takesStep σ k0 = some res) (hR : Rt (some (.inl res.1)) ids cG res.2) : pw l (px_R 4) y_Bo_takesStep c_Bo_takesStep 4 (some .boolean) 0 [(0, .inr (some (2, k0, 0)))] [] ids cG σ 0 0 Rt := by
  unfold F_Bo_takesStep at h
  refine pw_aload_n 0 (px_at td_Bo_takesStep 0 rfl) rfl rfl ?_
  refine pw_getf (v := .inr (some (1, (σ (2, k0, 0) 4).toNatClampNeg, 0))) (px_at td_Bo_takesStep 1 rfl) lf_Bo_31 rfl rfl rfl ?_
  refine pw_getf (v := .inr (some (8, (σ (2, k0, 0) 4).toNatClampNeg, 11))) (px_at td_Bo_takesStep 2 rfl) lf_Bo_215 rfl rfl rfl ?_
  refine pw_aload_n 0 (px_at td_Bo_takesStep 3 rfl) rfl rfl ?_
  refine pw_getf (v := .inl (σ (2, k0, 0) 8)) (px_at td_Bo_takesStep 4 rfl) lf_Bo_61 rfl rfl rfl ?_
  obtain ⟨hi1, h⟩ := px_gd_e h
  refine pw_ial (px_at td_Bo_takesStep 5 rfl) rfl hi1 rfl ?_
  refine pw_istore_n (L' := [(1, .inl (σ (8, (σ (2, k0, 0) 4).toNatClampNeg, 11) (σ (2, k0, 0) 8).toNatClampNeg)), (0, .inr (some (2, k0, 0)))]) (px_at td_Bo_takesStep 6 rfl) rfl (by decide) rfl ?_
  refine pw_aload_n 1 (px_at td_Bo_takesStep 7 rfl) rfl rfl ?_
  refine pw_getf (v := .inr (some (1, (σ (2, k0, 0) 4).toNatClampNeg, 0))) (px_at td_Bo_takesStep 8 rfl) lf_Bo_31 rfl rfl rfl ?_
  refine pw_getf (v := .inr (some (8, (σ (2, k0, 0) 4).toNatClampNeg, 12))) (px_at td_Bo_takesStep 9 rfl) lf_Bo_218 rfl rfl rfl ?_
  refine pw_aload_n 1 (px_at td_Bo_takesStep 10 rfl) rfl rfl ?_
  refine pw_getf (v := .inl (σ (2, k0, 0) 8)) (px_at td_Bo_takesStep 11 rfl) lf_Bo_61 rfl rfl rfl ?_
  obtain ⟨hi2, h⟩ := px_gd_e h
  refine pw_ial (px_at td_Bo_takesStep 12 rfl) rfl hi2 rfl ?_
  refine pw_istore_n (L' := [(2, .inl (σ (8, (σ (2, k0, 0) 4).toNatClampNeg, 12) (σ (2, k0, 0) 8).toNatClampNeg)), (1, .inl (σ (8, (σ (2, k0, 0) 4).toNatClampNeg, 11) (σ (2, k0, 0) 8).toNatClampNeg)), (0, .inr (some (2, k0, 0)))]) (px_at td_Bo_takesStep 13 rfl) rfl (by decide) rfl ?_
  refine pw_aload_n 2 (px_at td_Bo_takesStep 14 rfl) rfl rfl ?_
  refine pw_getf (v := .inr (some (1, (σ (2, k0, 0) 4).toNatClampNeg, 0))) (px_at td_Bo_takesStep 15 rfl) lf_Bo_31 rfl rfl rfl ?_
  refine pw_getf (v := .inr (some (8, (σ (2, k0, 0) 4).toNatClampNeg, 13))) (px_at td_Bo_takesStep 16 rfl) lf_Bo_221 rfl rfl rfl ?_
  refine pw_aload_n 2 (px_at td_Bo_takesStep 17 rfl) rfl rfl ?_
  refine pw_getf (v := .inl (σ (2, k0, 0) 8)) (px_at td_Bo_takesStep 18 rfl) lf_Bo_61 rfl rfl rfl ?_
  obtain ⟨hi3, h⟩ := px_gd_e h
  refine pw_ial (px_at td_Bo_takesStep 19 rfl) rfl hi3 rfl ?_
  refine pw_istore_n (L' := [(3, .inl (σ (8, (σ (2, k0, 0) 4).toNatClampNeg, 13) (σ (2, k0, 0) 8).toNatClampNeg)), (2, .inl (σ (8, (σ (2, k0, 0) 4).toNatClampNeg, 12) (σ (2, k0, 0) 8).toNatClampNeg)), (1, .inl (σ (8, (σ (2, k0, 0) 4).toNatClampNeg, 11) (σ (2, k0, 0) 8).toNatClampNeg)), (0, .inr (some (2, k0, 0)))]) (px_at td_Bo_takesStep 20 rfl) rfl (by decide) rfl ?_
  refine pw_iload_n 2 (px_at td_Bo_takesStep 21 rfl) rfl rfl ?_
  rcases px_ite h with ⟨hs4_0, h⟩ | ⟨hs4_0, h⟩
  · refine pw_tin (off := 28) 0 68 (px_at td_Bo_takesStep 22 rfl) hs4_0 (by decide) (by decide) (by decide) (by decide) ?_
    refine pw_aload_n 3 (px_at td_Bo_takesStep 23 rfl) rfl rfl ?_
    refine pw_iload_n 1 (px_at td_Bo_takesStep 24 rfl) rfl rfl ?_
    refine pw_iload_n 2 (px_at td_Bo_takesStep 25 rfl) rfl rfl ?_
    refine pw_iconst (v := 1) (px_at td_Bo_takesStep 26 rfl) (by decide) ?_
    rcases px_ite h with ⟨hc14, h⟩ | ⟨hc14, h⟩
    · refine pw_icmp_ne 79 (px_at td_Bo_takesStep 27 rfl) (by decide) (fun hn => absurd hc14 hn) (fun _ => ?_)
      refine pw_iconst (v := 1) (px_at td_Bo_takesStep 28 rfl) (by decide) ?_
      refine pw_goto 80 (px_at td_Bo_takesStep 29 rfl) (by decide) ?_
      obtain ⟨σ13, hk13, h⟩ := px_b1_e h
      refine pw_cV0 (2, k0, 0) [.inl (σ (8, (σ (2, k0, 0) 4).toNatClampNeg, 12) (σ (2, k0, 0) 8).toNatClampNeg), .inl 1] [] (px_at td_Bo_takesStep 31 rfl) lV_Bo_224 rfl rfl rfl (Nat.le_of_ble_eq_true rfl) (by decide) (k_Bo_askRail hk13) ?_
      refine pw_iconst (v := 1) (px_at td_Bo_takesStep 32 rfl) (by decide) ?_
      obtain rfl := Option.some.inj h
      exact pw_zret (px_at td_Bo_takesStep 33 rfl) rfl (by decide) (Nat.le_refl 0) (Nat.le_refl 0) hR
    · refine pw_icmp_ne 79 (px_at td_Bo_takesStep 27 rfl) (by decide) (fun _ => ?_) (fun hn => absurd hn hc14)
      refine pw_iconst (v := 0) (px_at td_Bo_takesStep 30 rfl) (by decide) ?_
      obtain ⟨σ12, hk12, h⟩ := px_b1_e h
      refine pw_cV0 (2, k0, 0) [.inl (σ (8, (σ (2, k0, 0) 4).toNatClampNeg, 12) (σ (2, k0, 0) 8).toNatClampNeg), .inl 0] [] (px_at td_Bo_takesStep 31 rfl) lV_Bo_224 rfl rfl rfl (Nat.le_of_ble_eq_true rfl) (by decide) (k_Bo_askRail hk12) ?_
      refine pw_iconst (v := 1) (px_at td_Bo_takesStep 32 rfl) (by decide) ?_
      obtain rfl := Option.some.inj h
      exact pw_zret (px_at td_Bo_takesStep 33 rfl) rfl (by decide) (Nat.le_refl 0) (Nat.le_refl 0) hR
  · have hd4_0 := trivial
    rcases px_ite h with ⟨hs4_1, h⟩ | ⟨hs4_1, h⟩
    · refine pw_tin (off := 28) 1 68 (px_at td_Bo_takesStep 22 rfl) hs4_1 (by decide) (by decide) (by decide) (by decide) ?_
      refine pw_aload_n 3 (px_at td_Bo_takesStep 23 rfl) rfl rfl ?_
      refine pw_iload_n 1 (px_at td_Bo_takesStep 24 rfl) rfl rfl ?_
      refine pw_iload_n 2 (px_at td_Bo_takesStep 25 rfl) rfl rfl ?_
      refine pw_iconst (v := 1) (px_at td_Bo_takesStep 26 rfl) (by decide) ?_
      rcases px_ite h with ⟨hc17, h⟩ | ⟨hc17, h⟩
      · refine pw_icmp_ne 79 (px_at td_Bo_takesStep 27 rfl) (by decide) (fun hn => absurd hc17 hn) (fun _ => ?_)
        refine pw_iconst (v := 1) (px_at td_Bo_takesStep 28 rfl) (by decide) ?_
        refine pw_goto 80 (px_at td_Bo_takesStep 29 rfl) (by decide) ?_
        obtain ⟨σ16, hk16, h⟩ := px_b1_e h
        refine pw_cV0 (2, k0, 0) [.inl (σ (8, (σ (2, k0, 0) 4).toNatClampNeg, 12) (σ (2, k0, 0) 8).toNatClampNeg), .inl 1] [] (px_at td_Bo_takesStep 31 rfl) lV_Bo_224 rfl rfl rfl (Nat.le_of_ble_eq_true rfl) (by decide) (k_Bo_askRail hk16) ?_
        refine pw_iconst (v := 1) (px_at td_Bo_takesStep 32 rfl) (by decide) ?_
        obtain rfl := Option.some.inj h
        exact pw_zret (px_at td_Bo_takesStep 33 rfl) rfl (by decide) (Nat.le_refl 0) (Nat.le_refl 0) hR
      · refine pw_icmp_ne 79 (px_at td_Bo_takesStep 27 rfl) (by decide) (fun _ => ?_) (fun hn => absurd hn hc17)
        refine pw_iconst (v := 0) (px_at td_Bo_takesStep 30 rfl) (by decide) ?_
        obtain ⟨σ15, hk15, h⟩ := px_b1_e h
        refine pw_cV0 (2, k0, 0) [.inl (σ (8, (σ (2, k0, 0) 4).toNatClampNeg, 12) (σ (2, k0, 0) 8).toNatClampNeg), .inl 0] [] (px_at td_Bo_takesStep 31 rfl) lV_Bo_224 rfl rfl rfl (Nat.le_of_ble_eq_true rfl) (by decide) (k_Bo_askRail hk15) ?_
        refine pw_iconst (v := 1) (px_at td_Bo_takesStep 32 rfl) (by decide) ?_
        obtain rfl := Option.some.inj h
        exact pw_zret (px_at td_Bo_takesStep 33 rfl) rfl (by decide) (Nat.le_refl 0) (Nat.le_refl 0) hR
    · have hd4_1 := trivial
      rcases px_ite h with ⟨hs4_2, h⟩ | ⟨hs4_2, h⟩
      · refine pw_tin (off := 45) 2 85 (px_at td_Bo_takesStep 22 rfl) hs4_2 (by decide) (by decide) (by decide) (by decide) ?_
        refine pw_aload_n 3 (px_at td_Bo_takesStep 34 rfl) rfl rfl ?_
        refine pw_getf (v := .inl (σ (2, k0, 0) 9)) (px_at td_Bo_takesStep 35 rfl) lf_Bo_64 rfl rfl rfl ?_
        refine pw_iload_n 0 (px_at td_Bo_takesStep 36 rfl) rfl rfl ?_
        rcases px_ite h with ⟨hc19, h⟩ | ⟨hc19, h⟩
        · refine pw_icmp_lt 95 (px_at td_Bo_takesStep 37 rfl) (by decide) (fun _ => ?_) (fun hn => absurd hc19 hn)
          refine pw_aload_n 3 (px_at td_Bo_takesStep 40 rfl) rfl rfl ?_
          refine pw_dup (px_at td_Bo_takesStep 41 rfl) ?_
          refine pw_getf (v := .inl (σ (2, k0, 0) 9)) (px_at td_Bo_takesStep 42 rfl) lf_Bo_64 rfl rfl rfl ?_
          refine pw_iconst (v := 1) (px_at td_Bo_takesStep 43 rfl) (by decide) ?_
          refine pw_iadd (px_at td_Bo_takesStep 44 rfl) ?_
          obtain ⟨σ18, hσ18, h⟩ := px_l_e h
          refine pw_puti (px_at td_Bo_takesStep 45 rfl) lw_Bo_64 rfl rfl (pw_s hσ18 ?_)
          refine pw_iconst (v := 0) (px_at td_Bo_takesStep 46 rfl) (by decide) ?_
          obtain rfl := Option.some.inj h
          exact pw_zret (px_at td_Bo_takesStep 47 rfl) rfl (by decide) (Nat.le_refl 0) (Nat.le_refl 0) hR
        · refine pw_icmp_lt 95 (px_at td_Bo_takesStep 37 rfl) (by decide) (fun hn => absurd hn hc19) (fun _ => ?_)
          refine pw_iconst (v := 1) (px_at td_Bo_takesStep 38 rfl) (by decide) ?_
          obtain rfl := Option.some.inj h
          exact pw_zret (px_at td_Bo_takesStep 39 rfl) rfl (by decide) (Nat.le_refl 0) (Nat.le_refl 0) hR
      · have hd4_2 := trivial
        refine pw_tout 107 (px_at td_Bo_takesStep 22 rfl) (px_out [0, 1, 2] (by decide) (by simp only [List.forall_mem_cons]; exact ⟨hs4_0, hs4_1, hs4_2, fun _ hm => absurd hm List.not_mem_nil⟩)) (by decide) ?_
        refine pw_aload_n 3 (px_at td_Bo_takesStep 48 rfl) rfl rfl ?_
        refine pw_iload_n 1 (px_at td_Bo_takesStep 49 rfl) rfl rfl ?_
        obtain ⟨r5, hk5, h⟩ := px_b1_e h
        refine pw_cV1 (2, k0, 0) [.inl (σ (8, (σ (2, k0, 0) 4).toNatClampNeg, 12) (σ (2, k0, 0) 8).toNatClampNeg)] [] (px_at td_Bo_takesStep 50 rfl) lV_Bo_97 rfl rfl rfl (Nat.le_of_ble_eq_true rfl) (by decide) (k_Bo_isGood hk5) ?_
        rcases px_ite h with ⟨hc11, h⟩ | ⟨hc11, h⟩
        · refine pw_if_eq 117 (px_at td_Bo_takesStep 51 rfl) (by decide) (fun _ => ?_) (fun hn => absurd hc11 hn)
          refine pw_aload_n 3 (px_at td_Bo_takesStep 54 rfl) rfl rfl ?_
          refine pw_dup (px_at td_Bo_takesStep 55 rfl) ?_
          refine pw_getf (v := .inl (σ (2, k0, 0) 9)) (px_at td_Bo_takesStep 56 rfl) lf_Bo_64 rfl rfl rfl ?_
          refine pw_iconst (v := 1) (px_at td_Bo_takesStep 57 rfl) (by decide) ?_
          refine pw_iadd (px_at td_Bo_takesStep 58 rfl) ?_
          obtain ⟨σ6, hσ6, h⟩ := px_l_e h
          refine pw_puti (px_at td_Bo_takesStep 59 rfl) lw_Bo_64 rfl rfl (pw_s hσ6 ?_)
          refine pw_aload_n 3 (px_at td_Bo_takesStep 60 rfl) rfl rfl ?_
          refine pw_getf (v := .inl (σ6 (2, k0, 0) 9)) (px_at td_Bo_takesStep 61 rfl) lf_Bo_64 rfl rfl rfl ?_
          refine pw_iload_n 0 (px_at td_Bo_takesStep 62 rfl) rfl rfl ?_
          rcases px_ite h with ⟨hc10, h⟩ | ⟨hc10, h⟩
          · refine pw_icmp_lt 150 (px_at td_Bo_takesStep 63 rfl) (by decide) (fun _ => ?_) (fun hn => absurd hc10 hn)
            refine pw_L [] [] rfl ?_
            exact Bo_takesStep_n150_l h hR
          · refine pw_icmp_lt 150 (px_at td_Bo_takesStep 63 rfl) (by decide) (fun hn => absurd hn hc10) (fun _ => ?_)
            refine pw_aload_n 3 (px_at td_Bo_takesStep 64 rfl) rfl rfl ?_
            obtain ⟨σ7, hk7, h⟩ := px_b1_e h
            refine pw_cV0 (2, k0, 0) [] [] (px_at td_Bo_takesStep 65 rfl) lV_Bo_164 rfl rfl rfl (Nat.le_of_ble_eq_true rfl) (by decide) (k_Bo_failSequence hk7) ?_
            refine pw_aload_n 3 (px_at td_Bo_takesStep 66 rfl) rfl rfl ?_
            refine pw_aload_n 3 (px_at td_Bo_takesStep 67 rfl) rfl rfl ?_
            refine pw_getf (v := .inr (some (1, (σ7 (2, k0, 0) 4).toNatClampNeg, 0))) (px_at td_Bo_takesStep 68 rfl) lf_Bo_31 rfl rfl rfl ?_
            obtain ⟨r8, hk8, h⟩ := px_b1_e h
            refine pw_cV1 (1, (σ7 (2, k0, 0) 4).toNatClampNeg, 0) [] [.inr (some (2, k0, 0))] (px_at td_Bo_takesStep 69 rfl) lV_Bo_228 rfl rfl rfl (Nat.le_of_ble_eq_true rfl) (by decide) (k_Pl_allRails hk8) ?_
            obtain ⟨σ9, hk9, h⟩ := px_b1_e h
            refine pw_cV0 (2, k0, 0) [.inl r8] [] (px_at td_Bo_takesStep 70 rfl) lV_Bo_145 rfl rfl rfl (Nat.le_of_ble_eq_true rfl) (by decide) (k_Bo_unwind hk9) ?_
            refine pw_L [] [] rfl ?_
            exact Bo_takesStep_n150_l h hR
        · refine pw_if_eq 117 (px_at td_Bo_takesStep 51 rfl) (by decide) (fun hn => absurd hn hc11) (fun _ => ?_)
          refine pw_iconst (v := 1) (px_at td_Bo_takesStep 52 rfl) (by decide) ?_
          obtain rfl := Option.some.inj h
          exact pw_zret (px_at td_Bo_takesStep 53 rfl) rfl (by decide) (Nat.le_refl 0) (Nat.le_refl 0) hR
theorem k_Bo_takesStep {l : Launch} {ids : List pxI} {σ : pxS} {k0 : Nat} {res : Int32 × pxS} (h : F_Bo_takesStep σ k0 = some res) : pm l y_Bo_takesStep c_Bo_takesStep 4 (some .boolean) (px_R 4) [.inr (some (2, k0, 0))] ids cG σ (px_r (some (.inl res.1)) ids cG res.2) :=
  pm_ofF (by decide +kernel) (Nat.le_of_ble_eq_true rfl) (e_Bo_takesStep h ⟨rfl, rfl, rfl, rfl⟩)
/-! Bo_runSequence -/
def Bo_runSequence_n79 (σ : pxS) (k0 : Nat) (v1 : Int32) : Option ((Int32 × pxS) ⊕ (Nat × pxS)) :=
  some (.inl ((v1 + 1), σ))
set_option maxRecDepth 100000 in
theorem Bo_runSequence_n79_l {l : Launch} {ids : List pxI} {Rt : Option pxV → List pxI → pxG → pxS → Prop} {σ : pxS} {k0 : Nat} {v1 : Int32} {o : (Int32 × pxS) ⊕ (Nat × pxS)} (h : Bo_runSequence_n79 σ k0 v1 = some o) (hC : ∀ s, o = .inl s → pw l (px_R 5) y_Bo_runSequence c_Bo_runSequence 2 none 2 [(0, .inr (some (2, k0, 0))), (1, .inl s.1)] [] ids cG s.2 0 0 Rt) (hX0 : ∀ e, o = .inr e → e.1 = 0 → pw l (px_R 5) y_Bo_runSequence c_Bo_runSequence 2 none 78 [] [] ids cG e.2 0 0 Rt) (hX1 : ∀ e, o = .inr e → e.1 = 1 → pw l (px_R 5) y_Bo_runSequence c_Bo_runSequence 2 none 85 [] [] ids cG e.2 0 0 Rt) : pw l (px_R 5) y_Bo_runSequence c_Bo_runSequence 2 none 79 [(0, .inr (some (2, k0, 0))), (1, .inl v1)] [] ids cG σ 0 0 Rt := by
  unfold Bo_runSequence_n79 at h
  refine pw_iinc (q := 1) (v := (v1 + 1)) (L' := [(1, .inl (v1 + 1)), (0, .inr (some (2, k0, 0)))]) (px_at td_Bo_runSequence 40 rfl) rfl rfl (by decide) rfl ?_
  refine pw_goto 2 (px_at td_Bo_runSequence 41 rfl) (by decide) ?_
  refine pw_L [(0, .inr (some (2, k0, 0))), (1, .inl (v1 + 1))] [1, 0] rfl ?_
  exact hC ((v1 + 1), σ) (Option.some.inj h).symm
def Bo_runSequence_n37 (σ : pxS) (k0 : Nat) (v1 : Int32) : Option ((Int32 × pxS) ⊕ (Nat × pxS)) :=
  px_l (px_up σ (2, k0, 0) 7 2) fun σ1 =>
  px_b1 (F_Bo_write σ1 k0 (-2) 6) fun σ2 =>
  Bo_runSequence_n79 σ2 k0 v1
set_option maxRecDepth 100000 in
theorem Bo_runSequence_n37_l {l : Launch} {ids : List pxI} {Rt : Option pxV → List pxI → pxG → pxS → Prop} {σ : pxS} {k0 : Nat} {v1 : Int32} {o : (Int32 × pxS) ⊕ (Nat × pxS)} (h : Bo_runSequence_n37 σ k0 v1 = some o) (hC : ∀ s, o = .inl s → pw l (px_R 5) y_Bo_runSequence c_Bo_runSequence 2 none 2 [(0, .inr (some (2, k0, 0))), (1, .inl s.1)] [] ids cG s.2 0 0 Rt) (hX0 : ∀ e, o = .inr e → e.1 = 0 → pw l (px_R 5) y_Bo_runSequence c_Bo_runSequence 2 none 78 [] [] ids cG e.2 0 0 Rt) (hX1 : ∀ e, o = .inr e → e.1 = 1 → pw l (px_R 5) y_Bo_runSequence c_Bo_runSequence 2 none 85 [] [] ids cG e.2 0 0 Rt) : pw l (px_R 5) y_Bo_runSequence c_Bo_runSequence 2 none 37 [(0, .inr (some (2, k0, 0))), (1, .inl v1)] [] ids cG σ 0 0 Rt := by
  unfold Bo_runSequence_n37 at h
  refine pw_aload_n 0 (px_at td_Bo_runSequence 18 rfl) rfl rfl ?_
  refine pw_iconst (v := 2) (px_at td_Bo_runSequence 19 rfl) (by decide) ?_
  obtain ⟨σ1, hσ1, h⟩ := px_l_e h
  refine pw_puti (px_at td_Bo_runSequence 20 rfl) lw_Bo_58 rfl rfl (pw_s hσ1 ?_)
  refine pw_aload_n 0 (px_at td_Bo_runSequence 21 rfl) rfl rfl ?_
  refine pw_bipush (v := (-2)) (px_at td_Bo_runSequence 22 rfl) (by decide) ?_
  refine pw_bipush (v := 6) (px_at td_Bo_runSequence 23 rfl) (by decide) ?_
  obtain ⟨σ2, hk2, h⟩ := px_b1_e h
  refine pw_cV0 (2, k0, 0) [.inl (-2), .inl 6] [] (px_at td_Bo_runSequence 24 rfl) lV_Bo_161 rfl rfl rfl (Nat.le_of_ble_eq_true rfl) (by decide) (k_Bo_write hk2) ?_
  refine pw_goto 79 (px_at td_Bo_runSequence 25 rfl) (by decide) ?_
  exact Bo_runSequence_n79_l h hC hX0 hX1
def Bo_runSequence_n2 (σ : pxS) (k0 : Nat) (v1 : Int32) : Option ((Int32 × pxS) ⊕ (Nat × pxS)) :=
  (if 24 < v1 then some (.inr (1, σ)) else (if (σ (2, k0, 0) 7) = 1 then (if (σ (2, k0, 0) 8) < 0 then Bo_runSequence_n37 σ k0 v1 else (if (σ (2, k0, 0) 8) < (σ (1, (σ (2, k0, 0) 4).toNatClampNeg, 0) 2) then px_b2 (F_Bo_takesStep σ k0) fun r3 σ3 =>
  (if r3 = 0 then some (.inr (0, σ3)) else px_l (px_up σ3 (2, k0, 0) 8 ((σ3 (2, k0, 0) 8) + 1)) fun σ4 =>
  px_l (px_up σ4 (2, k0, 0) 9 0) fun σ5 =>
  Bo_runSequence_n79 σ5 k0 v1) else Bo_runSequence_n37 σ k0 v1)) else some (.inr (1, σ))))
set_option maxRecDepth 100000 in
theorem Bo_runSequence_n2_l {l : Launch} {ids : List pxI} {Rt : Option pxV → List pxI → pxG → pxS → Prop} {σ : pxS} {k0 : Nat} {v1 : Int32} {o : (Int32 × pxS) ⊕ (Nat × pxS)} (h : Bo_runSequence_n2 σ k0 v1 = some o) (hC : ∀ s, o = .inl s → pw l (px_R 5) y_Bo_runSequence c_Bo_runSequence 2 none 2 [(0, .inr (some (2, k0, 0))), (1, .inl s.1)] [] ids cG s.2 0 0 Rt) (hX0 : ∀ e, o = .inr e → e.1 = 0 → pw l (px_R 5) y_Bo_runSequence c_Bo_runSequence 2 none 78 [] [] ids cG e.2 0 0 Rt) (hX1 : ∀ e, o = .inr e → e.1 = 1 → pw l (px_R 5) y_Bo_runSequence c_Bo_runSequence 2 none 85 [] [] ids cG e.2 0 0 Rt) : pw l (px_R 5) y_Bo_runSequence c_Bo_runSequence 2 none 2 [(0, .inr (some (2, k0, 0))), (1, .inl v1)] [] ids cG σ 0 0 Rt := by
  unfold Bo_runSequence_n2 at h
  refine pw_iload_n 1 (px_at td_Bo_runSequence 2 rfl) rfl rfl ?_
  refine pw_bipush (v := 24) (px_at td_Bo_runSequence 3 rfl) (by decide) ?_
  rcases px_ite h with ⟨hc10, h⟩ | ⟨hc10, h⟩
  · refine pw_icmp_gt 85 (px_at td_Bo_runSequence 4 rfl) (by decide) (fun _ => ?_) (fun hn => absurd hc10 hn)
    refine pw_L [] [] rfl ?_
    exact hX1 (1, σ) (Option.some.inj h).symm rfl
  · refine pw_icmp_gt 85 (px_at td_Bo_runSequence 4 rfl) (by decide) (fun hn => absurd hn hc10) (fun _ => ?_)
    refine pw_aload_n 0 (px_at td_Bo_runSequence 5 rfl) rfl rfl ?_
    refine pw_getf (v := .inl (σ (2, k0, 0) 7)) (px_at td_Bo_runSequence 6 rfl) lf_Bo_58 rfl rfl rfl ?_
    refine pw_iconst (v := 1) (px_at td_Bo_runSequence 7 rfl) (by decide) ?_
    rcases px_ite h with ⟨hc9, h⟩ | ⟨hc9, h⟩
    · refine pw_icmp_ne 85 (px_at td_Bo_runSequence 8 rfl) (by decide) (fun hn => absurd hc9 hn) (fun _ => ?_)
      refine pw_aload_n 0 (px_at td_Bo_runSequence 9 rfl) rfl rfl ?_
      refine pw_getf (v := .inl (σ (2, k0, 0) 8)) (px_at td_Bo_runSequence 10 rfl) lf_Bo_61 rfl rfl rfl ?_
      rcases px_ite h with ⟨hc8, h⟩ | ⟨hc8, h⟩
      · refine pw_if_lt 37 (px_at td_Bo_runSequence 11 rfl) (by decide) (fun _ => ?_) (fun hn => absurd hc8 hn)
        exact Bo_runSequence_n37_l h hC hX0 hX1
      · refine pw_if_lt 37 (px_at td_Bo_runSequence 11 rfl) (by decide) (fun hn => absurd hn hc8) (fun _ => ?_)
        refine pw_aload_n 0 (px_at td_Bo_runSequence 12 rfl) rfl rfl ?_
        refine pw_getf (v := .inl (σ (2, k0, 0) 8)) (px_at td_Bo_runSequence 13 rfl) lf_Bo_61 rfl rfl rfl ?_
        refine pw_aload_n 0 (px_at td_Bo_runSequence 14 rfl) rfl rfl ?_
        refine pw_getf (v := .inr (some (1, (σ (2, k0, 0) 4).toNatClampNeg, 0))) (px_at td_Bo_runSequence 15 rfl) lf_Bo_31 rfl rfl rfl ?_
        refine pw_getf (v := .inl (σ (1, (σ (2, k0, 0) 4).toNatClampNeg, 0) 2)) (px_at td_Bo_runSequence 16 rfl) lf_Bo_208 rfl rfl rfl ?_
        rcases px_ite h with ⟨hc7, h⟩ | ⟨hc7, h⟩
        · refine pw_icmp_lt 53 (px_at td_Bo_runSequence 17 rfl) (by decide) (fun _ => ?_) (fun hn => absurd hc7 hn)
          refine pw_aload_n 0 (px_at td_Bo_runSequence 26 rfl) rfl rfl ?_
          obtain ⟨r3, σ3, hk3, h⟩ := px_b2_e h
          refine pw_cV1 (2, k0, 0) [] [] (px_at td_Bo_runSequence 27 rfl) lV_Bo_211 rfl rfl rfl (Nat.le_of_ble_eq_true rfl) (by decide) (k_Bo_takesStep hk3) ?_
          rcases px_ite h with ⟨hc6, h⟩ | ⟨hc6, h⟩
          · refine pw_if_eq 78 (px_at td_Bo_runSequence 28 rfl) (by decide) (fun _ => ?_) (fun hn => absurd hc6 hn)
            refine pw_L [] [] rfl ?_
            exact hX0 (0, σ3) (Option.some.inj h).symm rfl
          · refine pw_if_eq 78 (px_at td_Bo_runSequence 28 rfl) (by decide) (fun hn => absurd hn hc6) (fun _ => ?_)
            refine pw_aload_n 0 (px_at td_Bo_runSequence 29 rfl) rfl rfl ?_
            refine pw_dup (px_at td_Bo_runSequence 30 rfl) ?_
            refine pw_getf (v := .inl (σ3 (2, k0, 0) 8)) (px_at td_Bo_runSequence 31 rfl) lf_Bo_61 rfl rfl rfl ?_
            refine pw_iconst (v := 1) (px_at td_Bo_runSequence 32 rfl) (by decide) ?_
            refine pw_iadd (px_at td_Bo_runSequence 33 rfl) ?_
            obtain ⟨σ4, hσ4, h⟩ := px_l_e h
            refine pw_puti (px_at td_Bo_runSequence 34 rfl) lw_Bo_61 rfl rfl (pw_s hσ4 ?_)
            refine pw_aload_n 0 (px_at td_Bo_runSequence 35 rfl) rfl rfl ?_
            refine pw_iconst (v := 0) (px_at td_Bo_runSequence 36 rfl) (by decide) ?_
            obtain ⟨σ5, hσ5, h⟩ := px_l_e h
            refine pw_puti (px_at td_Bo_runSequence 37 rfl) lw_Bo_64 rfl rfl (pw_s hσ5 ?_)
            refine pw_goto 79 (px_at td_Bo_runSequence 38 rfl) (by decide) ?_
            exact Bo_runSequence_n79_l h hC hX0 hX1
        · refine pw_icmp_lt 53 (px_at td_Bo_runSequence 17 rfl) (by decide) (fun hn => absurd hn hc7) (fun _ => ?_)
          exact Bo_runSequence_n37_l h hC hX0 hX1
    · refine pw_icmp_ne 85 (px_at td_Bo_runSequence 8 rfl) (by decide) (fun _ => ?_) (fun hn => absurd hn hc9)
      refine pw_L [] [] rfl ?_
      exact hX1 (1, σ) (Option.some.inj h).symm rfl
def Bo_runSequence_L2 (k0 : Nat) : (Int32 × pxS) → Option ((Int32 × pxS) ⊕ (Nat × pxS)) := fun s => Bo_runSequence_n2 s.2 k0 s.1
set_option maxRecDepth 100000 in
theorem Bo_runSequence_L2_l {l : Launch} {ids : List pxI} {Rt : Option pxV → List pxI → pxG → pxS → Prop} {k0 : Nat} {n : Nat} {s : Int32 × pxS} {e : Nat × pxS} (h : px_it (Bo_runSequence_L2 k0) n s = some e) (hX0 : e.1 = 0 → pw l (px_R 5) y_Bo_runSequence c_Bo_runSequence 2 none 78 [] [] ids cG e.2 0 0 Rt) (hX1 : e.1 = 1 → pw l (px_R 5) y_Bo_runSequence c_Bo_runSequence 2 none 85 [] [] ids cG e.2 0 0 Rt) : pw l (px_R 5) y_Bo_runSequence c_Bo_runSequence 2 none 2 [(0, .inr (some (2, k0, 0))), (1, .inl s.1)] [] ids cG s.2 0 0 Rt := by
  refine px_it_rule (f := Bo_runSequence_L2 k0) (C := fun s => pw l (px_R 5) y_Bo_runSequence c_Bo_runSequence 2 none 2 [(0, .inr (some (2, k0, 0))), (1, .inl s.1)] [] ids cG s.2 0 0 Rt) (X := fun e => (e.1 = 0 → pw l (px_R 5) y_Bo_runSequence c_Bo_runSequence 2 none 78 [] [] ids cG e.2 0 0 Rt) ∧ (e.1 = 1 → pw l (px_R 5) y_Bo_runSequence c_Bo_runSequence 2 none 85 [] [] ids cG e.2 0 0 Rt)) ?_ ?_ n s e h ⟨hX0, hX1⟩
  · intro s s1 hf hC
    exact Bo_runSequence_n2_l hf (fun s2 hs => by cases hs; exact hC) (fun e he ht => by cases he) (fun e he ht => by cases he)
  · intro s e hf hX
    exact Bo_runSequence_n2_l hf (fun s2 hs => by cases hs) (fun e1 he ht => by cases he; exact hX.1 ht) (fun e1 he ht => by cases he; exact hX.2 ht)
def F_Bo_runSequence (σ : pxS) (k0 : Nat) : Option (pxS) :=
  px_b1 (px_it (Bo_runSequence_L2 k0) px_N (0, σ)) fun e11 =>
  (if e11.1 = 0 then some e11.2 else some e11.2)
set_option maxRecDepth 100000 in
theorem e_Bo_runSequence {l : Launch} {ids : List pxI} {Rt : Option pxV → List pxI → pxG → pxS → Prop} {σ : pxS} {k0 : Nat} {res : pxS} (h : F_Bo_runSequence σ k0 = some res) (hR : Rt none ids cG res) : pw l (px_R 5) y_Bo_runSequence c_Bo_runSequence 2 none 0 [(0, .inr (some (2, k0, 0)))] [] ids cG σ 0 0 Rt := by
  unfold F_Bo_runSequence at h
  refine pw_iconst (v := 0) (px_at td_Bo_runSequence 0 rfl) (by decide) ?_
  refine pw_istore_n (L' := [(1, .inl 0), (0, .inr (some (2, k0, 0)))]) (px_at td_Bo_runSequence 1 rfl) rfl (by decide) rfl ?_
  obtain ⟨e11, he11, h⟩ := px_b1_e h
  refine pw_L [(0, .inr (some (2, k0, 0))), (1, .inl 0)] [1, 0] rfl ?_
  refine Bo_runSequence_L2_l he11 (fun ht0 => ?_) (fun ht1 => ?_)
  · rw [if_pos ht0] at h
    obtain rfl := Option.some.inj h
    exact pw_vret (px_at td_Bo_runSequence 39 rfl) rfl (Nat.le_refl 0) (Nat.le_refl 0) hR
  · rw [if_neg (by rw [ht1]; decide)] at h
    obtain rfl := Option.some.inj h
    exact pw_vret (px_at td_Bo_runSequence 42 rfl) rfl (Nat.le_refl 0) (Nat.le_refl 0) hR
theorem k_Bo_runSequence {l : Launch} {ids : List pxI} {σ : pxS} {k0 : Nat} {res : pxS} (h : F_Bo_runSequence σ k0 = some res) : pm l y_Bo_runSequence c_Bo_runSequence 2 none (px_R 5) [.inr (some (2, k0, 0))] ids cG σ (px_r none ids cG res) :=
  pm_ofF (by decide +kernel) (Nat.le_of_ble_eq_true rfl) (e_Bo_runSequence h ⟨rfl, rfl, rfl, rfl⟩)
/-! Bo_beginToRise -/
def Bo_beginToRise_n98 (σ : pxS) (k0 : Nat) (v1 : Int32) (v2 : Int32) (v3 : Int32) : Option ((Int32 × Int32 × pxS) ⊕ (pxS)) :=
  some (.inl (v2, (v3 + 1), σ))
set_option maxRecDepth 100000 in
theorem Bo_beginToRise_n98_l {l : Launch} {ids : List pxI} {Rt : Option pxV → List pxI → pxG → pxS → Prop} {σ : pxS} {k0 : Nat} {v1 : Int32} {v2 : Int32} {v3 : Int32} {o : (Int32 × Int32 × pxS) ⊕ (pxS)} (h : Bo_beginToRise_n98 σ k0 v1 v2 v3 = some o) (hC : ∀ s, o = .inl s → pw l (px_R 3) y_Bo_beginToRise c_Bo_beginToRise 5 none 9 [(0, .inr (some (2, k0, 0))), (1, .inl v1), (2, .inl s.1), (3, .inl s.2.1)] [] ids cG s.2.2 0 0 Rt) (hX0 : ∀ e, o = .inr e → pw l (px_R 3) y_Bo_beginToRise c_Bo_beginToRise 5 none 104 [] [] ids cG e 0 0 Rt) : pw l (px_R 3) y_Bo_beginToRise c_Bo_beginToRise 5 none 98 [(0, .inr (some (2, k0, 0))), (1, .inl v1), (2, .inl v2), (3, .inl v3)] [] ids cG σ 0 0 Rt := by
  unfold Bo_beginToRise_n98 at h
  refine pw_iinc (q := 3) (v := (v3 + 1)) (L' := [(3, .inl (v3 + 1)), (0, .inr (some (2, k0, 0))), (1, .inl v1), (2, .inl v2)]) (px_at td_Bo_beginToRise 50 rfl) rfl rfl (by decide) rfl ?_
  refine pw_goto 9 (px_at td_Bo_beginToRise 51 rfl) (by decide) ?_
  refine pw_L [(0, .inr (some (2, k0, 0))), (1, .inl v1), (2, .inl v2), (3, .inl (v3 + 1))] [1, 2, 3, 0] rfl ?_
  exact hC (v2, (v3 + 1), σ) (Option.some.inj h).symm
def Bo_beginToRise_n95 (σ : pxS) (k0 : Nat) (v1 : Int32) (v2 : Int32) (v3 : Int32) : Option ((Int32 × Int32 × pxS) ⊕ (pxS)) :=
  Bo_beginToRise_n98 σ k0 v1 (v2 + 1) v3
set_option maxRecDepth 100000 in
theorem Bo_beginToRise_n95_l {l : Launch} {ids : List pxI} {Rt : Option pxV → List pxI → pxG → pxS → Prop} {σ : pxS} {k0 : Nat} {v1 : Int32} {v2 : Int32} {v3 : Int32} {o : (Int32 × Int32 × pxS) ⊕ (pxS)} (h : Bo_beginToRise_n95 σ k0 v1 v2 v3 = some o) (hC : ∀ s, o = .inl s → pw l (px_R 3) y_Bo_beginToRise c_Bo_beginToRise 5 none 9 [(0, .inr (some (2, k0, 0))), (1, .inl v1), (2, .inl s.1), (3, .inl s.2.1)] [] ids cG s.2.2 0 0 Rt) (hX0 : ∀ e, o = .inr e → pw l (px_R 3) y_Bo_beginToRise c_Bo_beginToRise 5 none 104 [] [] ids cG e 0 0 Rt) : pw l (px_R 3) y_Bo_beginToRise c_Bo_beginToRise 5 none 95 [(0, .inr (some (2, k0, 0))), (1, .inl v1), (2, .inl v2), (3, .inl v3)] [] ids cG σ 0 0 Rt := by
  unfold Bo_beginToRise_n95 at h
  refine pw_iinc (q := 2) (v := (v2 + 1)) (L' := [(2, .inl (v2 + 1)), (0, .inr (some (2, k0, 0))), (1, .inl v1), (3, .inl v3)]) (px_at td_Bo_beginToRise 49 rfl) rfl rfl (by decide) rfl ?_
  refine pw_L [(0, .inr (some (2, k0, 0))), (1, .inl v1), (2, .inl (v2 + 1)), (3, .inl v3)] [1, 2, 0, 3] rfl ?_
  exact Bo_beginToRise_n98_l h hC hX0
def Bo_beginToRise_n9 (σ : pxS) (k0 : Nat) (v1 : Int32) (v2 : Int32) (v3 : Int32) : Option ((Int32 × Int32 × pxS) ⊕ (pxS)) :=
  (if 12 ≤ v3 then some (.inr σ) else (if (σ (4, k0, 0) 1) ≤ v2 then some (.inr σ) else px_b1 (F_Qu_at σ k0 0 v2) fun r2 =>
  (if r2 < 0 then Bo_beginToRise_n95 σ k0 v1 v2 v3 else px_b1 (F_Bo_heldBy σ k0 r2 v1) fun r3 =>
  (if r3 = 0 then px_b1 (F_Qu_drop σ k0 0 r2) fun σ4 =>
  px_gd r2 12 (px_l (px_up σ4 (3, k0, r2.toNatClampNeg) 2 2) fun σ6 =>
  px_gd r2 12 (px_l (px_up σ6 (3, k0, r2.toNatClampNeg) 8 (σ6 (2, k0, 0) 5)) fun σ8 =>
  px_b1 (F_Bo_write σ8 k0 r2 0) fun σ9 =>
  Bo_beginToRise_n98 σ9 k0 v1 v2 v3)) else Bo_beginToRise_n95 σ k0 v1 v2 v3))))
set_option maxRecDepth 100000 in
theorem Bo_beginToRise_n9_l {l : Launch} {ids : List pxI} {Rt : Option pxV → List pxI → pxG → pxS → Prop} {σ : pxS} {k0 : Nat} {v1 : Int32} {v2 : Int32} {v3 : Int32} {o : (Int32 × Int32 × pxS) ⊕ (pxS)} (h : Bo_beginToRise_n9 σ k0 v1 v2 v3 = some o) (hC : ∀ s, o = .inl s → pw l (px_R 3) y_Bo_beginToRise c_Bo_beginToRise 5 none 9 [(0, .inr (some (2, k0, 0))), (1, .inl v1), (2, .inl s.1), (3, .inl s.2.1)] [] ids cG s.2.2 0 0 Rt) (hX0 : ∀ e, o = .inr e → pw l (px_R 3) y_Bo_beginToRise c_Bo_beginToRise 5 none 104 [] [] ids cG e 0 0 Rt) : pw l (px_R 3) y_Bo_beginToRise c_Bo_beginToRise 5 none 9 [(0, .inr (some (2, k0, 0))), (1, .inl v1), (2, .inl v2), (3, .inl v3)] [] ids cG σ 0 0 Rt := by
  unfold Bo_beginToRise_n9 at h
  refine pw_iload_n 3 (px_at td_Bo_beginToRise 7 rfl) rfl rfl ?_
  refine pw_bipush (v := 12) (px_at td_Bo_beginToRise 8 rfl) (by decide) ?_
  rcases px_ite h with ⟨hc13, h⟩ | ⟨hc13, h⟩
  · refine pw_icmp_ge 104 (px_at td_Bo_beginToRise 9 rfl) (by decide) (fun _ => ?_) (fun hn => absurd hc13 hn)
    refine pw_L [] [] rfl ?_
    exact hX0 σ (Option.some.inj h).symm
  · refine pw_icmp_ge 104 (px_at td_Bo_beginToRise 9 rfl) (by decide) (fun hn => absurd hn hc13) (fun _ => ?_)
    refine pw_iload_n 2 (px_at td_Bo_beginToRise 10 rfl) rfl rfl ?_
    refine pw_aload_n 0 (px_at td_Bo_beginToRise 11 rfl) rfl rfl ?_
    refine pw_getf (v := .inr (some (4, k0, 0))) (px_at td_Bo_beginToRise 12 rfl) lf_Bo_20 rfl rfl rfl ?_
    refine pw_getf (v := .inl (σ (4, k0, 0) 1)) (px_at td_Bo_beginToRise 13 rfl) lf_Bo_110 rfl rfl rfl ?_
    rcases px_ite h with ⟨hc12, h⟩ | ⟨hc12, h⟩
    · refine pw_icmp_ge 104 (px_at td_Bo_beginToRise 14 rfl) (by decide) (fun _ => ?_) (fun hn => absurd hc12 hn)
      refine pw_L [] [] rfl ?_
      exact hX0 σ (Option.some.inj h).symm
    · refine pw_icmp_ge 104 (px_at td_Bo_beginToRise 14 rfl) (by decide) (fun hn => absurd hn hc12) (fun _ => ?_)
      refine pw_aload_n 0 (px_at td_Bo_beginToRise 15 rfl) rfl rfl ?_
      refine pw_getf (v := .inr (some (4, k0, 0))) (px_at td_Bo_beginToRise 16 rfl) lf_Bo_20 rfl rfl rfl ?_
      refine pw_iload_n 2 (px_at td_Bo_beginToRise 17 rfl) rfl rfl ?_
      obtain ⟨r2, hk2, h⟩ := px_b1_e h
      refine pw_cV1 (4, k0, 0) [.inl v2] [] (px_at td_Bo_beginToRise 18 rfl) lV_Bo_235 rfl rfl rfl (Nat.le_of_ble_eq_true rfl) (by decide) (k_Qu_at hk2) ?_
      refine pw_istore (L' := [(4, .inl r2), (0, .inr (some (2, k0, 0))), (1, .inl v1), (2, .inl v2), (3, .inl v3)]) (px_at td_Bo_beginToRise 19 rfl) (by decide) rfl ?_
      refine pw_iload 0 (px_at td_Bo_beginToRise 20 rfl) rfl ?_
      rcases px_ite h with ⟨hc11, h⟩ | ⟨hc11, h⟩
      · refine pw_if_lt 95 (px_at td_Bo_beginToRise 21 rfl) (by decide) (fun _ => ?_) (fun hn => absurd hc11 hn)
        refine pw_L [(0, .inr (some (2, k0, 0))), (1, .inl v1), (2, .inl v2), (3, .inl v3)] [1, 2, 3, 4] rfl ?_
        exact Bo_beginToRise_n95_l h hC hX0
      · refine pw_if_lt 95 (px_at td_Bo_beginToRise 21 rfl) (by decide) (fun hn => absurd hn hc11) (fun _ => ?_)
        refine pw_aload_n 1 (px_at td_Bo_beginToRise 22 rfl) rfl rfl ?_
        refine pw_iload 0 (px_at td_Bo_beginToRise 23 rfl) rfl ?_
        refine pw_iload_n 2 (px_at td_Bo_beginToRise 24 rfl) rfl rfl ?_
        obtain ⟨r3, hk3, h⟩ := px_b1_e h
        refine pw_cV1 (2, k0, 0) [.inl r2, .inl v1] [] (px_at td_Bo_beginToRise 25 rfl) lV_Bo_238 rfl rfl rfl (Nat.le_of_ble_eq_true rfl) (by decide) (k_Bo_heldBy hk3) ?_
        rcases px_ite h with ⟨hc10, h⟩ | ⟨hc10, h⟩
        · refine pw_if_ne 95 (px_at td_Bo_beginToRise 26 rfl) (by decide) (fun hn => absurd hc10 hn) (fun _ => ?_)
          refine pw_aload_n 1 (px_at td_Bo_beginToRise 27 rfl) rfl rfl ?_
          refine pw_getf (v := .inr (some (4, k0, 0))) (px_at td_Bo_beginToRise 28 rfl) lf_Bo_20 rfl rfl rfl ?_
          refine pw_iload 0 (px_at td_Bo_beginToRise 29 rfl) rfl ?_
          obtain ⟨σ4, hk4, h⟩ := px_b1_e h
          refine pw_cV0 (4, k0, 0) [.inl r2] [] (px_at td_Bo_beginToRise 30 rfl) lV_Bo_136 rfl rfl rfl (Nat.le_of_ble_eq_true rfl) (by decide) (k_Qu_drop hk4) ?_
          refine pw_aload_n 1 (px_at td_Bo_beginToRise 31 rfl) rfl rfl ?_
          refine pw_getf (v := .inr (some (9, k0, 0))) (px_at td_Bo_beginToRise 32 rfl) lf_Bo_11 rfl rfl rfl ?_
          refine pw_iload 0 (px_at td_Bo_beginToRise 33 rfl) rfl ?_
          obtain ⟨hi5, h⟩ := px_gd_e h
          refine pw_aald (r := (3, k0, r2.toNatClampNeg)) (px_at td_Bo_beginToRise 34 rfl) rfl (fun _ => rfl) hi5 rfl ?_
          refine pw_iconst (v := 2) (px_at td_Bo_beginToRise 35 rfl) (by decide) ?_
          obtain ⟨σ6, hσ6, h⟩ := px_l_e h
          refine pw_puti (px_at td_Bo_beginToRise 36 rfl) lw_Bo_85 rfl rfl (pw_s hσ6 ?_)
          refine pw_aload_n 1 (px_at td_Bo_beginToRise 37 rfl) rfl rfl ?_
          refine pw_getf (v := .inr (some (9, k0, 0))) (px_at td_Bo_beginToRise 38 rfl) lf_Bo_11 rfl rfl rfl ?_
          refine pw_iload 0 (px_at td_Bo_beginToRise 39 rfl) rfl ?_
          obtain ⟨hi7, h⟩ := px_gd_e h
          refine pw_aald (r := (3, k0, r2.toNatClampNeg)) (px_at td_Bo_beginToRise 40 rfl) rfl (fun _ => rfl) hi7 rfl ?_
          refine pw_aload_n 1 (px_at td_Bo_beginToRise 41 rfl) rfl rfl ?_
          refine pw_getf (v := .inl (σ6 (2, k0, 0) 5)) (px_at td_Bo_beginToRise 42 rfl) lf_Bo_51 rfl rfl rfl ?_
          obtain ⟨σ8, hσ8, h⟩ := px_l_e h
          refine pw_puti (px_at td_Bo_beginToRise 43 rfl) lw_Bo_158 rfl rfl (pw_s hσ8 ?_)
          refine pw_aload_n 1 (px_at td_Bo_beginToRise 44 rfl) rfl rfl ?_
          refine pw_iload 0 (px_at td_Bo_beginToRise 45 rfl) rfl ?_
          refine pw_iconst (v := 0) (px_at td_Bo_beginToRise 46 rfl) (by decide) ?_
          obtain ⟨σ9, hk9, h⟩ := px_b1_e h
          refine pw_cV0 (2, k0, 0) [.inl r2, .inl 0] [] (px_at td_Bo_beginToRise 47 rfl) lV_Bo_161 rfl rfl rfl (Nat.le_of_ble_eq_true rfl) (by decide) (k_Bo_write hk9) ?_
          refine pw_goto 98 (px_at td_Bo_beginToRise 48 rfl) (by decide) ?_
          refine pw_L [(0, .inr (some (2, k0, 0))), (1, .inl v1), (2, .inl v2), (3, .inl v3)] [1, 2, 3, 4] rfl ?_
          exact Bo_beginToRise_n98_l h hC hX0
        · refine pw_if_ne 95 (px_at td_Bo_beginToRise 26 rfl) (by decide) (fun _ => ?_) (fun hn => absurd hn hc10)
          refine pw_L [(0, .inr (some (2, k0, 0))), (1, .inl v1), (2, .inl v2), (3, .inl v3)] [1, 2, 3, 4] rfl ?_
          exact Bo_beginToRise_n95_l h hC hX0
def Bo_beginToRise_L9 (k0 : Nat) (v1 : Int32) : (Int32 × Int32 × pxS) → Option ((Int32 × Int32 × pxS) ⊕ (pxS)) := fun s => Bo_beginToRise_n9 s.2.2 k0 v1 s.1 s.2.1
set_option maxRecDepth 100000 in
theorem Bo_beginToRise_L9_l {l : Launch} {ids : List pxI} {Rt : Option pxV → List pxI → pxG → pxS → Prop} {k0 : Nat} {v1 : Int32} {n : Nat} {s : Int32 × Int32 × pxS} {e : pxS} (h : px_it (Bo_beginToRise_L9 k0 v1) n s = some e) (hX0 : pw l (px_R 3) y_Bo_beginToRise c_Bo_beginToRise 5 none 104 [] [] ids cG e 0 0 Rt) : pw l (px_R 3) y_Bo_beginToRise c_Bo_beginToRise 5 none 9 [(0, .inr (some (2, k0, 0))), (1, .inl v1), (2, .inl s.1), (3, .inl s.2.1)] [] ids cG s.2.2 0 0 Rt := by
  refine px_it_rule (f := Bo_beginToRise_L9 k0 v1) (C := fun s => pw l (px_R 3) y_Bo_beginToRise c_Bo_beginToRise 5 none 9 [(0, .inr (some (2, k0, 0))), (1, .inl v1), (2, .inl s.1), (3, .inl s.2.1)] [] ids cG s.2.2 0 0 Rt) (X := fun e => (pw l (px_R 3) y_Bo_beginToRise c_Bo_beginToRise 5 none 104 [] [] ids cG e 0 0 Rt)) ?_ ?_ n s e h hX0
  · intro s s1 hf hC
    exact Bo_beginToRise_n9_l hf (fun s2 hs => by cases hs; exact hC) (fun e he => by cases he)
  · intro s e hf hX
    exact Bo_beginToRise_n9_l hf (fun s2 hs => by cases hs) (fun e1 he => by cases he; exact hX)
def F_Bo_beginToRise (σ : pxS) (k0 : Nat) : Option (pxS) :=
  px_b1 (F_Bo_goodRails σ k0) fun r1 =>
  px_b1 (px_it (Bo_beginToRise_L9 k0 r1) px_N (0, 0, σ)) fun e14 =>
  some e14
set_option maxRecDepth 100000 in
theorem e_Bo_beginToRise {l : Launch} {ids : List pxI} {Rt : Option pxV → List pxI → pxG → pxS → Prop} {σ : pxS} {k0 : Nat} {res : pxS} (h : F_Bo_beginToRise σ k0 = some res) (hR : Rt none ids cG res) : pw l (px_R 3) y_Bo_beginToRise c_Bo_beginToRise 5 none 0 [(0, .inr (some (2, k0, 0)))] [] ids cG σ 0 0 Rt := by
  unfold F_Bo_beginToRise at h
  refine pw_aload_n 0 (px_at td_Bo_beginToRise 0 rfl) rfl rfl ?_
  obtain ⟨r1, hk1, h⟩ := px_b1_e h
  refine pw_cV1 (2, k0, 0) [] [] (px_at td_Bo_beginToRise 1 rfl) lV_Bo_232 rfl rfl rfl (Nat.le_of_ble_eq_true rfl) (by decide) (k_Bo_goodRails hk1) ?_
  refine pw_istore_n (L' := [(1, .inl r1), (0, .inr (some (2, k0, 0)))]) (px_at td_Bo_beginToRise 2 rfl) rfl (by decide) rfl ?_
  refine pw_iconst (v := 0) (px_at td_Bo_beginToRise 3 rfl) (by decide) ?_
  refine pw_istore_n (L' := [(2, .inl 0), (1, .inl r1), (0, .inr (some (2, k0, 0)))]) (px_at td_Bo_beginToRise 4 rfl) rfl (by decide) rfl ?_
  refine pw_iconst (v := 0) (px_at td_Bo_beginToRise 5 rfl) (by decide) ?_
  refine pw_istore_n (L' := [(3, .inl 0), (2, .inl 0), (1, .inl r1), (0, .inr (some (2, k0, 0)))]) (px_at td_Bo_beginToRise 6 rfl) rfl (by decide) rfl ?_
  obtain ⟨e14, he14, h⟩ := px_b1_e h
  refine pw_L [(0, .inr (some (2, k0, 0))), (1, .inl r1), (2, .inl 0), (3, .inl 0)] [3, 2, 1, 0] rfl ?_
  refine Bo_beginToRise_L9_l he14 ?_
  obtain rfl := Option.some.inj h
  exact pw_vret (px_at td_Bo_beginToRise 52 rfl) rfl (Nat.le_refl 0) (Nat.le_refl 0) hR
theorem k_Bo_beginToRise {l : Launch} {ids : List pxI} {σ : pxS} {k0 : Nat} {res : pxS} (h : F_Bo_beginToRise σ k0 = some res) : pm l y_Bo_beginToRise c_Bo_beginToRise 5 none (px_R 3) [.inr (some (2, k0, 0))] ids cG σ (px_r none ids cG res) :=
  pm_ofF (by decide +kernel) (Nat.le_of_ble_eq_true rfl) (e_Bo_beginToRise h ⟨rfl, rfl, rfl, rfl⟩)
/-! Bo_goOff -/
def F_Bo_goOff (σ : pxS) (k0 : Nat) (v1 : Int32) : Option (pxS) :=
  px_gd v1 12 (px_l (px_up σ (3, k0, v1.toNatClampNeg) 2 0) fun σ2 =>
  px_b1 (F_Bo_write σ2 k0 v1 4) fun σ3 =>
  (if (σ3 (3, k0, v1.toNatClampNeg) 12) = 0 then some σ3 else (if (σ3 (8, (σ3 (2, k0, 0) 4).toNatClampNeg, 14) 4) ≤ (σ3 (3, k0, v1.toNatClampNeg) 10) then some σ3 else px_l (px_up σ3 (3, k0, v1.toNatClampNeg) 11 ((σ3 (2, k0, 0) 5) + (σ3 (8, (σ3 (2, k0, 0) 4).toNatClampNeg, 14) 5))) fun σ4 =>
  some σ4)))
set_option maxRecDepth 100000 in
theorem e_Bo_goOff {l : Launch} {ids : List pxI} {Rt : Option pxV → List pxI → pxG → pxS → Prop} {σ : pxS} {k0 : Nat} {v1 : Int32} {res : pxS} (h : F_Bo_goOff σ k0 v1 = some res) (hR : Rt none ids cG res) : pw l (px_R 3) y_Bo_goOff c_Bo_goOff 3 none 0 [(0, .inr (some (2, k0, 0))), (1, .inl v1)] [] ids cG σ 0 0 Rt := by
  unfold F_Bo_goOff at h
  refine pw_aload_n 0 (px_at td_Bo_goOff 0 rfl) rfl rfl ?_
  refine pw_getf (v := .inr (some (9, k0, 0))) (px_at td_Bo_goOff 1 rfl) lf_Bo_11 rfl rfl rfl ?_
  refine pw_iload_n 1 (px_at td_Bo_goOff 2 rfl) rfl rfl ?_
  obtain ⟨hi1, h⟩ := px_gd_e h
  refine pw_aald (r := (3, k0, v1.toNatClampNeg)) (px_at td_Bo_goOff 3 rfl) rfl (fun _ => rfl) hi1 rfl ?_
  refine pw_astore_n (L' := [(2, .inr (some (3, k0, v1.toNatClampNeg))), (0, .inr (some (2, k0, 0))), (1, .inl v1)]) (px_at td_Bo_goOff 4 rfl) rfl (by decide) rfl ?_
  refine pw_aload_n 0 (px_at td_Bo_goOff 5 rfl) rfl rfl ?_
  refine pw_iconst (v := 0) (px_at td_Bo_goOff 6 rfl) (by decide) ?_
  obtain ⟨σ2, hσ2, h⟩ := px_l_e h
  refine pw_puti (px_at td_Bo_goOff 7 rfl) lw_Bo_85 rfl rfl (pw_s hσ2 ?_)
  refine pw_aload_n 1 (px_at td_Bo_goOff 8 rfl) rfl rfl ?_
  refine pw_iload_n 2 (px_at td_Bo_goOff 9 rfl) rfl rfl ?_
  refine pw_iconst (v := 4) (px_at td_Bo_goOff 10 rfl) (by decide) ?_
  obtain ⟨σ3, hk3, h⟩ := px_b1_e h
  refine pw_cV0 (2, k0, 0) [.inl v1, .inl 4] [] (px_at td_Bo_goOff 11 rfl) lV_Bo_161 rfl rfl rfl (Nat.le_of_ble_eq_true rfl) (by decide) (k_Bo_write hk3) ?_
  refine pw_aload_n 0 (px_at td_Bo_goOff 12 rfl) rfl rfl ?_
  refine pw_getf (v := .inl (σ3 (3, k0, v1.toNatClampNeg) 12)) (px_at td_Bo_goOff 13 rfl) lf_Bo_128 rfl rfl rfl ?_
  rcases px_ite h with ⟨hc6, h⟩ | ⟨hc6, h⟩
  · refine pw_if_eq 59 (px_at td_Bo_goOff 14 rfl) (by decide) (fun _ => ?_) (fun hn => absurd hc6 hn)
    obtain rfl := Option.some.inj h
    exact pw_vret (px_at td_Bo_goOff 33 rfl) rfl (Nat.le_refl 0) (Nat.le_refl 0) hR
  · refine pw_if_eq 59 (px_at td_Bo_goOff 14 rfl) (by decide) (fun hn => absurd hn hc6) (fun _ => ?_)
    refine pw_aload_n 0 (px_at td_Bo_goOff 15 rfl) rfl rfl ?_
    refine pw_getf (v := .inl (σ3 (3, k0, v1.toNatClampNeg) 10)) (px_at td_Bo_goOff 16 rfl) lf_Bo_125 rfl rfl rfl ?_
    refine pw_aload_n 1 (px_at td_Bo_goOff 17 rfl) rfl rfl ?_
    refine pw_getf (v := .inr (some (1, (σ3 (2, k0, 0) 4).toNatClampNeg, 0))) (px_at td_Bo_goOff 18 rfl) lf_Bo_31 rfl rfl rfl ?_
    refine pw_getf (v := .inr (some (8, (σ3 (2, k0, 0) 4).toNatClampNeg, 14))) (px_at td_Bo_goOff 19 rfl) lf_Bo_94 rfl rfl rfl ?_
    refine pw_iconst (v := 4) (px_at td_Bo_goOff 20 rfl) (by decide) ?_
    refine pw_ial (px_at td_Bo_goOff 21 rfl) rfl (px_inL (by decide) px_z4 (by decide)) px_z4 ?_
    rcases px_ite h with ⟨hc5, h⟩ | ⟨hc5, h⟩
    · refine pw_icmp_ge 59 (px_at td_Bo_goOff 22 rfl) (by decide) (fun _ => ?_) (fun hn => absurd hc5 hn)
      obtain rfl := Option.some.inj h
      exact pw_vret (px_at td_Bo_goOff 33 rfl) rfl (Nat.le_refl 0) (Nat.le_refl 0) hR
    · refine pw_icmp_ge 59 (px_at td_Bo_goOff 22 rfl) (by decide) (fun hn => absurd hn hc5) (fun _ => ?_)
      refine pw_aload_n 0 (px_at td_Bo_goOff 23 rfl) rfl rfl ?_
      refine pw_aload_n 1 (px_at td_Bo_goOff 24 rfl) rfl rfl ?_
      refine pw_getf (v := .inl (σ3 (2, k0, 0) 5)) (px_at td_Bo_goOff 25 rfl) lf_Bo_51 rfl rfl rfl ?_
      refine pw_aload_n 1 (px_at td_Bo_goOff 26 rfl) rfl rfl ?_
      refine pw_getf (v := .inr (some (1, (σ3 (2, k0, 0) 4).toNatClampNeg, 0))) (px_at td_Bo_goOff 27 rfl) lf_Bo_31 rfl rfl rfl ?_
      refine pw_getf (v := .inr (some (8, (σ3 (2, k0, 0) 4).toNatClampNeg, 14))) (px_at td_Bo_goOff 28 rfl) lf_Bo_94 rfl rfl rfl ?_
      refine pw_iconst (v := 5) (px_at td_Bo_goOff 29 rfl) (by decide) ?_
      refine pw_ial (px_at td_Bo_goOff 30 rfl) rfl (px_inL (by decide) px_z5 (by decide)) px_z5 ?_
      refine pw_iadd (px_at td_Bo_goOff 31 rfl) ?_
      obtain ⟨σ4, hσ4, h⟩ := px_l_e h
      refine pw_puti (px_at td_Bo_goOff 32 rfl) lw_Bo_113 rfl rfl (pw_s hσ4 ?_)
      obtain rfl := Option.some.inj h
      exact pw_vret (px_at td_Bo_goOff 33 rfl) rfl (Nat.le_refl 0) (Nat.le_refl 0) hR
theorem k_Bo_goOff {l : Launch} {ids : List pxI} {σ : pxS} {k0 : Nat} {v1 : Int32} {res : pxS} (h : F_Bo_goOff σ k0 v1 = some res) : pm l y_Bo_goOff c_Bo_goOff 3 none (px_R 3) [.inr (some (2, k0, 0)), .inl v1] ids cG σ (px_r none ids cG res) :=
  pm_ofF (by decide +kernel) (Nat.le_of_ble_eq_true rfl) (e_Bo_goOff h ⟨rfl, rfl, rfl, rfl⟩)
/-! Bo_moveVolts -/
def Bo_moveVolts_n182 (σ : pxS) (k0 : Nat) (v1 : Int32) (k2 : Nat) (j2 : Nat) (v3 : Int32) : Option ((Int32 × pxS) ⊕ (pxS)) :=
  px_l (px_up σ (3, k2, j2) 4 (if 0 < ((σ (3, k2, j2) 3) - v3) then ((σ (3, k2, j2) 3) - v3) else 0)) fun σ5 =>
  some (.inl ((v1 + 1), σ5))
set_option maxRecDepth 100000 in
theorem Bo_moveVolts_n182_l {l : Launch} {ids : List pxI} {Rt : Option pxV → List pxI → pxG → pxS → Prop} {σ : pxS} {k0 : Nat} {v1 : Int32} {k2 : Nat} {j2 : Nat} {v3 : Int32} {o : (Int32 × pxS) ⊕ (pxS)} (h : Bo_moveVolts_n182 σ k0 v1 k2 j2 v3 = some o) (hC : ∀ s, o = .inl s → pw l (px_R 4) y_Bo_moveVolts c_Bo_moveVolts 5 none 2 [(0, .inr (some (2, k0, 0))), (1, .inl s.1)] [] ids cG s.2 0 0 Rt) (hX0 : ∀ e, o = .inr e → pw l (px_R 4) y_Bo_moveVolts c_Bo_moveVolts 5 none 202 [] [] ids cG e 0 0 Rt) : pw l (px_R 4) y_Bo_moveVolts c_Bo_moveVolts 5 none 182 [(0, .inr (some (2, k0, 0))), (1, .inl v1), (2, .inr (some (3, k2, j2))), (3, .inl v3)] [] ids cG σ 0 0 Rt := by
  unfold Bo_moveVolts_n182 at h
  refine pw_aload_n 2 (px_at td_Bo_moveVolts 85 rfl) rfl rfl ?_
  refine pw_iconst (v := 0) (px_at td_Bo_moveVolts 86 rfl) (by decide) ?_
  refine pw_aload_n 2 (px_at td_Bo_moveVolts 87 rfl) rfl rfl ?_
  refine pw_getf (v := .inl (σ (3, k2, j2) 3)) (px_at td_Bo_moveVolts 88 rfl) lf_Bo_88 rfl rfl rfl ?_
  refine pw_iload_n 3 (px_at td_Bo_moveVolts 89 rfl) rfl rfl ?_
  refine pw_isub (px_at td_Bo_moveVolts 90 rfl) ?_
  refine pw_mmax (px_at td_Bo_moveVolts 91 rfl) lm_Bo_203 ws_Math_max wi_java_lang_Math wc_Math_max (by decide) (Nat.le_of_ble_eq_true rfl) (Nat.le_refl 0) (Nat.le_refl 0) ?_
  obtain ⟨σ5, hσ5, h⟩ := px_l_e h
  refine pw_puti (px_at td_Bo_moveVolts 92 rfl) lw_Bo_250 rfl rfl (pw_s hσ5 ?_)
  refine pw_iinc (q := 1) (v := (v1 + 1)) (L' := [(1, .inl (v1 + 1)), (0, .inr (some (2, k0, 0))), (2, .inr (some (3, k2, j2))), (3, .inl v3)]) (px_at td_Bo_moveVolts 93 rfl) rfl rfl (by decide) rfl ?_
  refine pw_goto 2 (px_at td_Bo_moveVolts 94 rfl) (by decide) ?_
  refine pw_L [(0, .inr (some (2, k0, 0))), (1, .inl (v1 + 1))] [1, 0] rfl ?_
  exact hC ((v1 + 1), σ5) (Option.some.inj h).symm
def Bo_moveVolts_n2 (σ : pxS) (k0 : Nat) (v1 : Int32) : Option ((Int32 × pxS) ⊕ (pxS)) :=
  (if (σ (1, (σ (2, k0, 0) 4).toNatClampNeg, 0) 0) ≤ v1 then some (.inr σ) else px_gd v1 12 (px_gd v1 12 (px_gd v1 12 ((if (σ (3, k0, v1.toNatClampNeg) 2) = 2 then px_l (px_up σ (3, k0, v1.toNatClampNeg) 3 (if ((σ (3, k0, v1.toNatClampNeg) 3) + (σ (8, (σ (2, k0, 0) 4).toNatClampNeg, 3) v1.toNatClampNeg)) < (σ (8, (σ (2, k0, 0) 4).toNatClampNeg, 2) v1.toNatClampNeg) then ((σ (3, k0, v1.toNatClampNeg) 3) + (σ (8, (σ (2, k0, 0) 4).toNatClampNeg, 3) v1.toNatClampNeg)) else (σ (8, (σ (2, k0, 0) 4).toNatClampNeg, 2) v1.toNatClampNeg))) fun σ6 =>
  px_gd v1 12 ((if (if ((σ (3, k0, v1.toNatClampNeg) 3) + (σ (8, (σ (2, k0, 0) 4).toNatClampNeg, 3) v1.toNatClampNeg)) < (σ (8, (σ (2, k0, 0) 4).toNatClampNeg, 2) v1.toNatClampNeg) then ((σ (3, k0, v1.toNatClampNeg) 3) + (σ (8, (σ (2, k0, 0) 4).toNatClampNeg, 3) v1.toNatClampNeg)) else (σ (8, (σ (2, k0, 0) 4).toNatClampNeg, 2) v1.toNatClampNeg)) = (σ6 (8, (σ6 (2, k0, 0) 4).toNatClampNeg, 2) v1.toNatClampNeg) then px_l (px_up σ6 (3, k0, v1.toNatClampNeg) 2 3) fun σ8 =>
  px_b1 (F_Bo_write σ8 k0 v1 1) fun σ9 =>
  Bo_moveVolts_n182 σ9 k0 v1 k0 v1.toNatClampNeg (σ (3, k0, v1.toNatClampNeg) 3) else Bo_moveVolts_n182 σ6 k0 v1 k0 v1.toNatClampNeg (σ (3, k0, v1.toNatClampNeg) 3))) else (if (σ (3, k0, v1.toNatClampNeg) 2) = 3 then (if (σ (3, k0, v1.toNatClampNeg) 6) = 0 then px_l (px_up σ (3, k0, v1.toNatClampNeg) 3 (if ((σ (3, k0, v1.toNatClampNeg) 3) + (σ (8, (σ (2, k0, 0) 4).toNatClampNeg, 3) v1.toNatClampNeg)) < (σ (8, (σ (2, k0, 0) 4).toNatClampNeg, 2) v1.toNatClampNeg) then ((σ (3, k0, v1.toNatClampNeg) 3) + (σ (8, (σ (2, k0, 0) 4).toNatClampNeg, 3) v1.toNatClampNeg)) else (σ (8, (σ (2, k0, 0) 4).toNatClampNeg, 2) v1.toNatClampNeg))) fun σ11 =>
  Bo_moveVolts_n182 σ11 k0 v1 k0 v1.toNatClampNeg (σ (3, k0, v1.toNatClampNeg) 3) else px_l (px_up σ (3, k0, v1.toNatClampNeg) 3 (if 0 < ((σ (3, k0, v1.toNatClampNeg) 3) - (σ (8, (σ (2, k0, 0) 4).toNatClampNeg, 14) 0)) then ((σ (3, k0, v1.toNatClampNeg) 3) - (σ (8, (σ (2, k0, 0) 4).toNatClampNeg, 14) 0)) else 0)) fun σ12 =>
  Bo_moveVolts_n182 σ12 k0 v1 k0 v1.toNatClampNeg (σ (3, k0, v1.toNatClampNeg) 3)) else (if (σ (3, k0, v1.toNatClampNeg) 2) = 4 then px_l (px_up σ (3, k0, v1.toNatClampNeg) 3 (if 0 < ((σ (3, k0, v1.toNatClampNeg) 3) - (σ (8, (σ (2, k0, 0) 4).toNatClampNeg, 14) 1)) then ((σ (3, k0, v1.toNatClampNeg) 3) - (σ (8, (σ (2, k0, 0) 4).toNatClampNeg, 14) 1)) else 0)) fun σ14 =>
  (if (σ14 (3, k0, v1.toNatClampNeg) 3) = 0 then px_b1 (F_Bo_goOff σ14 k0 v1) fun σ15 =>
  Bo_moveVolts_n182 σ15 k0 v1 k0 v1.toNatClampNeg (σ (3, k0, v1.toNatClampNeg) 3) else Bo_moveVolts_n182 σ14 k0 v1 k0 v1.toNatClampNeg (σ (3, k0, v1.toNatClampNeg) 3)) else Bo_moveVolts_n182 σ k0 v1 k0 v1.toNatClampNeg (σ (3, k0, v1.toNatClampNeg) 3))))))))
set_option maxRecDepth 100000 in
theorem Bo_moveVolts_n2_l {l : Launch} {ids : List pxI} {Rt : Option pxV → List pxI → pxG → pxS → Prop} {σ : pxS} {k0 : Nat} {v1 : Int32} {o : (Int32 × pxS) ⊕ (pxS)} (h : Bo_moveVolts_n2 σ k0 v1 = some o) (hC : ∀ s, o = .inl s → pw l (px_R 4) y_Bo_moveVolts c_Bo_moveVolts 5 none 2 [(0, .inr (some (2, k0, 0))), (1, .inl s.1)] [] ids cG s.2 0 0 Rt) (hX0 : ∀ e, o = .inr e → pw l (px_R 4) y_Bo_moveVolts c_Bo_moveVolts 5 none 202 [] [] ids cG e 0 0 Rt) : pw l (px_R 4) y_Bo_moveVolts c_Bo_moveVolts 5 none 2 [(0, .inr (some (2, k0, 0))), (1, .inl v1)] [] ids cG σ 0 0 Rt := by
  unfold Bo_moveVolts_n2 at h
  refine pw_iload_n 1 (px_at td_Bo_moveVolts 2 rfl) rfl rfl ?_
  refine pw_aload_n 0 (px_at td_Bo_moveVolts 3 rfl) rfl rfl ?_
  refine pw_getf (v := .inr (some (1, (σ (2, k0, 0) 4).toNatClampNeg, 0))) (px_at td_Bo_moveVolts 4 rfl) lf_Bo_31 rfl rfl rfl ?_
  refine pw_getf (v := .inl (σ (1, (σ (2, k0, 0) 4).toNatClampNeg, 0) 0)) (px_at td_Bo_moveVolts 5 rfl) lf_Bo_70 rfl rfl rfl ?_
  rcases px_ite h with ⟨hc17, h⟩ | ⟨hc17, h⟩
  · refine pw_icmp_ge 202 (px_at td_Bo_moveVolts 6 rfl) (by decide) (fun _ => ?_) (fun hn => absurd hc17 hn)
    refine pw_L [] [] rfl ?_
    exact hX0 σ (Option.some.inj h).symm
  · refine pw_icmp_ge 202 (px_at td_Bo_moveVolts 6 rfl) (by decide) (fun hn => absurd hn hc17) (fun _ => ?_)
    refine pw_aload_n 0 (px_at td_Bo_moveVolts 7 rfl) rfl rfl ?_
    refine pw_getf (v := .inr (some (9, k0, 0))) (px_at td_Bo_moveVolts 8 rfl) lf_Bo_11 rfl rfl rfl ?_
    refine pw_iload_n 1 (px_at td_Bo_moveVolts 9 rfl) rfl rfl ?_
    obtain ⟨hi1, h⟩ := px_gd_e h
    refine pw_aald (r := (3, k0, v1.toNatClampNeg)) (px_at td_Bo_moveVolts 10 rfl) rfl (fun _ => rfl) hi1 rfl ?_
    refine pw_astore_n (L' := [(2, .inr (some (3, k0, v1.toNatClampNeg))), (0, .inr (some (2, k0, 0))), (1, .inl v1)]) (px_at td_Bo_moveVolts 11 rfl) rfl (by decide) rfl ?_
    refine pw_aload_n 0 (px_at td_Bo_moveVolts 12 rfl) rfl rfl ?_
    refine pw_getf (v := .inl (σ (3, k0, v1.toNatClampNeg) 3)) (px_at td_Bo_moveVolts 13 rfl) lf_Bo_88 rfl rfl rfl ?_
    refine pw_istore_n (L' := [(3, .inl (σ (3, k0, v1.toNatClampNeg) 3)), (2, .inr (some (3, k0, v1.toNatClampNeg))), (0, .inr (some (2, k0, 0))), (1, .inl v1)]) (px_at td_Bo_moveVolts 14 rfl) rfl (by decide) rfl ?_
    refine pw_aload_n 2 (px_at td_Bo_moveVolts 15 rfl) rfl rfl ?_
    refine pw_getf (v := .inr (some (1, (σ (2, k0, 0) 4).toNatClampNeg, 0))) (px_at td_Bo_moveVolts 16 rfl) lf_Bo_31 rfl rfl rfl ?_
    refine pw_getf (v := .inr (some (8, (σ (2, k0, 0) 4).toNatClampNeg, 2))) (px_at td_Bo_moveVolts 17 rfl) lf_Bo_91 rfl rfl rfl ?_
    refine pw_iload_n 3 (px_at td_Bo_moveVolts 18 rfl) rfl rfl ?_
    obtain ⟨hi2, h⟩ := px_gd_e h
    refine pw_ial (px_at td_Bo_moveVolts 19 rfl) rfl hi2 rfl ?_
    refine pw_iload_n 0 (px_at td_Bo_moveVolts 20 rfl) rfl rfl ?_
    refine pw_aload_n 2 (px_at td_Bo_moveVolts 21 rfl) rfl rfl ?_
    refine pw_getf (v := .inr (some (1, (σ (2, k0, 0) 4).toNatClampNeg, 0))) (px_at td_Bo_moveVolts 22 rfl) lf_Bo_31 rfl rfl rfl ?_
    refine pw_getf (v := .inr (some (8, (σ (2, k0, 0) 4).toNatClampNeg, 3))) (px_at td_Bo_moveVolts 23 rfl) lf_Bo_241 rfl rfl rfl ?_
    refine pw_iload_n 3 (px_at td_Bo_moveVolts 24 rfl) rfl rfl ?_
    obtain ⟨hi3, h⟩ := px_gd_e h
    refine pw_ial (px_at td_Bo_moveVolts 25 rfl) rfl hi3 rfl ?_
    refine pw_iadd (px_at td_Bo_moveVolts 26 rfl) ?_
    refine pw_mmin (px_at td_Bo_moveVolts 27 rfl) lm_Bo_116 ws_Math_min wi_java_lang_Math wc_Math_min (by decide) (Nat.le_of_ble_eq_true rfl) (Nat.le_refl 0) (Nat.le_refl 0) ?_
    refine pw_istore (L' := [(4, .inl (if ((σ (3, k0, v1.toNatClampNeg) 3) + (σ (8, (σ (2, k0, 0) 4).toNatClampNeg, 3) v1.toNatClampNeg)) < (σ (8, (σ (2, k0, 0) 4).toNatClampNeg, 2) v1.toNatClampNeg) then ((σ (3, k0, v1.toNatClampNeg) 3) + (σ (8, (σ (2, k0, 0) 4).toNatClampNeg, 3) v1.toNatClampNeg)) else (σ (8, (σ (2, k0, 0) 4).toNatClampNeg, 2) v1.toNatClampNeg))), (3, .inl (σ (3, k0, v1.toNatClampNeg) 3)), (2, .inr (some (3, k0, v1.toNatClampNeg))), (0, .inr (some (2, k0, 0))), (1, .inl v1)]) (px_at td_Bo_moveVolts 28 rfl) (by decide) rfl ?_
    refine pw_aload_n 2 (px_at td_Bo_moveVolts 29 rfl) rfl rfl ?_
    refine pw_getf (v := .inl (σ (3, k0, v1.toNatClampNeg) 2)) (px_at td_Bo_moveVolts 30 rfl) lf_Bo_85 rfl rfl rfl ?_
    rcases px_ite h with ⟨hs4_0, h⟩ | ⟨hs4_0, h⟩
    · refine pw_tin (off := 26) 2 80 (px_at td_Bo_moveVolts 31 rfl) hs4_0 (by decide) (by decide) (by decide) (by decide) ?_
      refine pw_aload_n 2 (px_at td_Bo_moveVolts 32 rfl) rfl rfl ?_
      refine pw_iload 0 (px_at td_Bo_moveVolts 33 rfl) rfl ?_
      obtain ⟨σ6, hσ6, h⟩ := px_l_e h
      refine pw_puti (px_at td_Bo_moveVolts 34 rfl) lw_Bo_88 rfl rfl (pw_s hσ6 ?_)
      refine pw_iload 0 (px_at td_Bo_moveVolts 35 rfl) rfl ?_
      refine pw_aload_n 3 (px_at td_Bo_moveVolts 36 rfl) rfl rfl ?_
      refine pw_getf (v := .inr (some (1, (σ6 (2, k0, 0) 4).toNatClampNeg, 0))) (px_at td_Bo_moveVolts 37 rfl) lf_Bo_31 rfl rfl rfl ?_
      refine pw_getf (v := .inr (some (8, (σ6 (2, k0, 0) 4).toNatClampNeg, 2))) (px_at td_Bo_moveVolts 38 rfl) lf_Bo_91 rfl rfl rfl ?_
      refine pw_iload_n 4 (px_at td_Bo_moveVolts 39 rfl) rfl rfl ?_
      obtain ⟨hi7, h⟩ := px_gd_e h
      refine pw_ial (px_at td_Bo_moveVolts 40 rfl) rfl hi7 rfl ?_
      rcases px_ite h with ⟨hc10, h⟩ | ⟨hc10, h⟩
      · refine pw_icmp_ne 182 (px_at td_Bo_moveVolts 41 rfl) (by decide) (fun hn => absurd hc10 hn) (fun _ => ?_)
        refine pw_aload_n 2 (px_at td_Bo_moveVolts 42 rfl) rfl rfl ?_
        refine pw_iconst (v := 3) (px_at td_Bo_moveVolts 43 rfl) (by decide) ?_
        obtain ⟨σ8, hσ8, h⟩ := px_l_e h
        refine pw_puti (px_at td_Bo_moveVolts 44 rfl) lw_Bo_85 rfl rfl (pw_s hσ8 ?_)
        refine pw_aload_n 3 (px_at td_Bo_moveVolts 45 rfl) rfl rfl ?_
        refine pw_iload_n 4 (px_at td_Bo_moveVolts 46 rfl) rfl rfl ?_
        refine pw_iconst (v := 1) (px_at td_Bo_moveVolts 47 rfl) (by decide) ?_
        obtain ⟨σ9, hk9, h⟩ := px_b1_e h
        refine pw_cV0 (2, k0, 0) [.inl v1, .inl 1] [] (px_at td_Bo_moveVolts 48 rfl) lV_Bo_161 rfl rfl rfl (Nat.le_of_ble_eq_true rfl) (by decide) (k_Bo_write hk9) ?_
        refine pw_goto 182 (px_at td_Bo_moveVolts 49 rfl) (by decide) ?_
        refine pw_L [(0, .inr (some (2, k0, 0))), (1, .inl v1), (2, .inr (some (3, k0, v1.toNatClampNeg))), (3, .inl (σ (3, k0, v1.toNatClampNeg) 3))] [3, 4, 2, 1] rfl ?_
        exact Bo_moveVolts_n182_l h hC hX0
      · refine pw_icmp_ne 182 (px_at td_Bo_moveVolts 41 rfl) (by decide) (fun _ => ?_) (fun hn => absurd hn hc10)
        refine pw_L [(0, .inr (some (2, k0, 0))), (1, .inl v1), (2, .inr (some (3, k0, v1.toNatClampNeg))), (3, .inl (σ (3, k0, v1.toNatClampNeg) 3))] [3, 4, 2, 1] rfl ?_
        exact Bo_moveVolts_n182_l h hC hX0
    · have hd4_0 := trivial
      rcases px_ite h with ⟨hs4_1, h⟩ | ⟨hs4_1, h⟩
      · refine pw_tin (off := 60) 3 114 (px_at td_Bo_moveVolts 31 rfl) hs4_1 (by decide) (by decide) (by decide) (by decide) ?_
        refine pw_aload_n 2 (px_at td_Bo_moveVolts 50 rfl) rfl rfl ?_
        refine pw_aload_n 2 (px_at td_Bo_moveVolts 51 rfl) rfl rfl ?_
        refine pw_getf (v := .inl (σ (3, k0, v1.toNatClampNeg) 6)) (px_at td_Bo_moveVolts 52 rfl) lf_Bo_244 rfl rfl rfl ?_
        rcases px_ite h with ⟨hc13, h⟩ | ⟨hc13, h⟩
        · refine pw_if_eq 140 (px_at td_Bo_moveVolts 53 rfl) (by decide) (fun _ => ?_) (fun hn => absurd hc13 hn)
          refine pw_iload 0 (px_at td_Bo_moveVolts 64 rfl) rfl ?_
          obtain ⟨σ11, hσ11, h⟩ := px_l_e h
          refine pw_puti (px_at td_Bo_moveVolts 65 rfl) lw_Bo_88 rfl rfl (pw_s hσ11 ?_)
          refine pw_goto 182 (px_at td_Bo_moveVolts 66 rfl) (by decide) ?_
          refine pw_L [(0, .inr (some (2, k0, 0))), (1, .inl v1), (2, .inr (some (3, k0, v1.toNatClampNeg))), (3, .inl (σ (3, k0, v1.toNatClampNeg) 3))] [3, 4, 2, 1] rfl ?_
          exact Bo_moveVolts_n182_l h hC hX0
        · refine pw_if_eq 140 (px_at td_Bo_moveVolts 53 rfl) (by decide) (fun hn => absurd hn hc13) (fun _ => ?_)
          refine pw_iconst (v := 0) (px_at td_Bo_moveVolts 54 rfl) (by decide) ?_
          refine pw_iload_n 1 (px_at td_Bo_moveVolts 55 rfl) rfl rfl ?_
          refine pw_aload_n 3 (px_at td_Bo_moveVolts 56 rfl) rfl rfl ?_
          refine pw_getf (v := .inr (some (1, (σ (2, k0, 0) 4).toNatClampNeg, 0))) (px_at td_Bo_moveVolts 57 rfl) lf_Bo_31 rfl rfl rfl ?_
          refine pw_getf (v := .inr (some (8, (σ (2, k0, 0) 4).toNatClampNeg, 14))) (px_at td_Bo_moveVolts 58 rfl) lf_Bo_94 rfl rfl rfl ?_
          refine pw_iconst (v := 0) (px_at td_Bo_moveVolts 59 rfl) (by decide) ?_
          refine pw_ial (px_at td_Bo_moveVolts 60 rfl) rfl (px_inL (by decide) px_z0 (by decide)) px_z0 ?_
          refine pw_isub (px_at td_Bo_moveVolts 61 rfl) ?_
          refine pw_mmax (px_at td_Bo_moveVolts 62 rfl) lm_Bo_203 ws_Math_max wi_java_lang_Math wc_Math_max (by decide) (Nat.le_of_ble_eq_true rfl) (Nat.le_refl 0) (Nat.le_refl 0) ?_
          refine pw_goto 142 (px_at td_Bo_moveVolts 63 rfl) (by decide) ?_
          obtain ⟨σ12, hσ12, h⟩ := px_l_e h
          refine pw_puti (px_at td_Bo_moveVolts 65 rfl) lw_Bo_88 rfl rfl (pw_s hσ12 ?_)
          refine pw_goto 182 (px_at td_Bo_moveVolts 66 rfl) (by decide) ?_
          refine pw_L [(0, .inr (some (2, k0, 0))), (1, .inl v1), (2, .inr (some (3, k0, v1.toNatClampNeg))), (3, .inl (σ (3, k0, v1.toNatClampNeg) 3))] [3, 4, 2, 1] rfl ?_
          exact Bo_moveVolts_n182_l h hC hX0
      · have hd4_1 := trivial
        rcases px_ite h with ⟨hs4_2, h⟩ | ⟨hs4_2, h⟩
        · refine pw_tin (off := 94) 4 148 (px_at td_Bo_moveVolts 31 rfl) hs4_2 (by decide) (by decide) (by decide) (by decide) ?_
          refine pw_aload_n 2 (px_at td_Bo_moveVolts 67 rfl) rfl rfl ?_
          refine pw_iconst (v := 0) (px_at td_Bo_moveVolts 68 rfl) (by decide) ?_
          refine pw_iload_n 1 (px_at td_Bo_moveVolts 69 rfl) rfl rfl ?_
          refine pw_aload_n 3 (px_at td_Bo_moveVolts 70 rfl) rfl rfl ?_
          refine pw_getf (v := .inr (some (1, (σ (2, k0, 0) 4).toNatClampNeg, 0))) (px_at td_Bo_moveVolts 71 rfl) lf_Bo_31 rfl rfl rfl ?_
          refine pw_getf (v := .inr (some (8, (σ (2, k0, 0) 4).toNatClampNeg, 14))) (px_at td_Bo_moveVolts 72 rfl) lf_Bo_94 rfl rfl rfl ?_
          refine pw_iconst (v := 1) (px_at td_Bo_moveVolts 73 rfl) (by decide) ?_
          refine pw_ial (px_at td_Bo_moveVolts 74 rfl) rfl (px_inL (by decide) px_z1 (by decide)) px_z1 ?_
          refine pw_isub (px_at td_Bo_moveVolts 75 rfl) ?_
          refine pw_mmax (px_at td_Bo_moveVolts 76 rfl) lm_Bo_203 ws_Math_max wi_java_lang_Math wc_Math_max (by decide) (Nat.le_of_ble_eq_true rfl) (Nat.le_refl 0) (Nat.le_refl 0) ?_
          obtain ⟨σ14, hσ14, h⟩ := px_l_e h
          refine pw_puti (px_at td_Bo_moveVolts 77 rfl) lw_Bo_88 rfl rfl (pw_s hσ14 ?_)
          refine pw_aload_n 2 (px_at td_Bo_moveVolts 78 rfl) rfl rfl ?_
          refine pw_getf (v := .inl (σ14 (3, k0, v1.toNatClampNeg) 3)) (px_at td_Bo_moveVolts 79 rfl) lf_Bo_88 rfl rfl rfl ?_
          rcases px_ite h with ⟨hc16, h⟩ | ⟨hc16, h⟩
          · refine pw_if_ne 182 (px_at td_Bo_moveVolts 80 rfl) (by decide) (fun hn => absurd hc16 hn) (fun _ => ?_)
            refine pw_aload_n 3 (px_at td_Bo_moveVolts 81 rfl) rfl rfl ?_
            refine pw_iload_n 4 (px_at td_Bo_moveVolts 82 rfl) rfl rfl ?_
            obtain ⟨σ15, hk15, h⟩ := px_b1_e h
            refine pw_cV0 (2, k0, 0) [.inl v1] [] (px_at td_Bo_moveVolts 83 rfl) lV_Bo_247 rfl rfl rfl (Nat.le_of_ble_eq_true rfl) (by decide) (k_Bo_goOff hk15) ?_
            refine pw_goto 182 (px_at td_Bo_moveVolts 84 rfl) (by decide) ?_
            refine pw_L [(0, .inr (some (2, k0, 0))), (1, .inl v1), (2, .inr (some (3, k0, v1.toNatClampNeg))), (3, .inl (σ (3, k0, v1.toNatClampNeg) 3))] [3, 4, 2, 1] rfl ?_
            exact Bo_moveVolts_n182_l h hC hX0
          · refine pw_if_ne 182 (px_at td_Bo_moveVolts 80 rfl) (by decide) (fun _ => ?_) (fun hn => absurd hn hc16)
            refine pw_L [(0, .inr (some (2, k0, 0))), (1, .inl v1), (2, .inr (some (3, k0, v1.toNatClampNeg))), (3, .inl (σ (3, k0, v1.toNatClampNeg) 3))] [3, 4, 2, 1] rfl ?_
            exact Bo_moveVolts_n182_l h hC hX0
        · have hd4_2 := trivial
          refine pw_tout 182 (px_at td_Bo_moveVolts 31 rfl) (px_out [2, 3, 4] (by decide) (by simp only [List.forall_mem_cons]; exact ⟨hs4_0, hs4_1, hs4_2, fun _ hm => absurd hm List.not_mem_nil⟩)) (by decide) ?_
          refine pw_L [(0, .inr (some (2, k0, 0))), (1, .inl v1), (2, .inr (some (3, k0, v1.toNatClampNeg))), (3, .inl (σ (3, k0, v1.toNatClampNeg) 3))] [3, 4, 2, 1] rfl ?_
          exact Bo_moveVolts_n182_l h hC hX0
def Bo_moveVolts_L2 (k0 : Nat) : (Int32 × pxS) → Option ((Int32 × pxS) ⊕ (pxS)) := fun s => Bo_moveVolts_n2 s.2 k0 s.1
set_option maxRecDepth 100000 in
theorem Bo_moveVolts_L2_l {l : Launch} {ids : List pxI} {Rt : Option pxV → List pxI → pxG → pxS → Prop} {k0 : Nat} {n : Nat} {s : Int32 × pxS} {e : pxS} (h : px_it (Bo_moveVolts_L2 k0) n s = some e) (hX0 : pw l (px_R 4) y_Bo_moveVolts c_Bo_moveVolts 5 none 202 [] [] ids cG e 0 0 Rt) : pw l (px_R 4) y_Bo_moveVolts c_Bo_moveVolts 5 none 2 [(0, .inr (some (2, k0, 0))), (1, .inl s.1)] [] ids cG s.2 0 0 Rt := by
  refine px_it_rule (f := Bo_moveVolts_L2 k0) (C := fun s => pw l (px_R 4) y_Bo_moveVolts c_Bo_moveVolts 5 none 2 [(0, .inr (some (2, k0, 0))), (1, .inl s.1)] [] ids cG s.2 0 0 Rt) (X := fun e => (pw l (px_R 4) y_Bo_moveVolts c_Bo_moveVolts 5 none 202 [] [] ids cG e 0 0 Rt)) ?_ ?_ n s e h hX0
  · intro s s1 hf hC
    exact Bo_moveVolts_n2_l hf (fun s2 hs => by cases hs; exact hC) (fun e he => by cases he)
  · intro s e hf hX
    exact Bo_moveVolts_n2_l hf (fun s2 hs => by cases hs) (fun e1 he => by cases he; exact hX)
def F_Bo_moveVolts (σ : pxS) (k0 : Nat) : Option (pxS) :=
  px_b1 (px_it (Bo_moveVolts_L2 k0) px_N (0, σ)) fun e18 =>
  some e18
set_option maxRecDepth 100000 in
theorem e_Bo_moveVolts {l : Launch} {ids : List pxI} {Rt : Option pxV → List pxI → pxG → pxS → Prop} {σ : pxS} {k0 : Nat} {res : pxS} (h : F_Bo_moveVolts σ k0 = some res) (hR : Rt none ids cG res) : pw l (px_R 4) y_Bo_moveVolts c_Bo_moveVolts 5 none 0 [(0, .inr (some (2, k0, 0)))] [] ids cG σ 0 0 Rt := by
  unfold F_Bo_moveVolts at h
  refine pw_iconst (v := 0) (px_at td_Bo_moveVolts 0 rfl) (by decide) ?_
  refine pw_istore_n (L' := [(1, .inl 0), (0, .inr (some (2, k0, 0)))]) (px_at td_Bo_moveVolts 1 rfl) rfl (by decide) rfl ?_
  obtain ⟨e18, he18, h⟩ := px_b1_e h
  refine pw_L [(0, .inr (some (2, k0, 0))), (1, .inl 0)] [1, 0] rfl ?_
  refine Bo_moveVolts_L2_l he18 ?_
  obtain rfl := Option.some.inj h
  exact pw_vret (px_at td_Bo_moveVolts 95 rfl) rfl (Nat.le_refl 0) (Nat.le_refl 0) hR
theorem k_Bo_moveVolts {l : Launch} {ids : List pxI} {σ : pxS} {k0 : Nat} {res : pxS} (h : F_Bo_moveVolts σ k0 = some res) : pm l y_Bo_moveVolts c_Bo_moveVolts 5 none (px_R 4) [.inr (some (2, k0, 0))] ids cG σ (px_r none ids cG res) :=
  pm_ofF (by decide +kernel) (Nat.le_of_ble_eq_true rfl) (e_Bo_moveVolts h ⟨rfl, rfl, rfl, rfl⟩)
/-! Bo_measureDraws -/
def Bo_measureDraws_n7 (σ : pxS) (k0 : Nat) (v1 : Int32) : Option ((Int32 × pxS) ⊕ (pxS)) :=
  (if (σ (1, (σ (2, k0, 0) 4).toNatClampNeg, 0) 0) ≤ v1 then some (.inr σ) else px_gd v1 12 (px_l (px_up σ (3, k0, v1.toNatClampNeg) 5 0) fun σ3 =>
  some (.inl ((v1 + 1), σ3))))
set_option maxRecDepth 100000 in
theorem Bo_measureDraws_n7_l {l : Launch} {ids : List pxI} {Rt : Option pxV → List pxI → pxG → pxS → Prop} {σ : pxS} {k0 : Nat} {v1 : Int32} {o : (Int32 × pxS) ⊕ (pxS)} (h : Bo_measureDraws_n7 σ k0 v1 = some o) (hC : ∀ s, o = .inl s → pw l (px_R 2) y_Bo_measureDraws c_Bo_measureDraws 5 none 7 [(0, .inr (some (2, k0, 0))), (1, .inl s.1)] [] ids cG s.2 0 0 Rt) (hX0 : ∀ e, o = .inr e → pw l (px_R 2) y_Bo_measureDraws c_Bo_measureDraws 5 none 34 [(0, .inr (some (2, k0, 0)))] [] ids cG e 0 0 Rt) : pw l (px_R 2) y_Bo_measureDraws c_Bo_measureDraws 5 none 7 [(0, .inr (some (2, k0, 0))), (1, .inl v1)] [] ids cG σ 0 0 Rt := by
  unfold Bo_measureDraws_n7 at h
  refine pw_iload_n 1 (px_at td_Bo_measureDraws 5 rfl) rfl rfl ?_
  refine pw_aload_n 0 (px_at td_Bo_measureDraws 6 rfl) rfl rfl ?_
  refine pw_getf (v := .inr (some (1, (σ (2, k0, 0) 4).toNatClampNeg, 0))) (px_at td_Bo_measureDraws 7 rfl) lf_Bo_31 rfl rfl rfl ?_
  refine pw_getf (v := .inl (σ (1, (σ (2, k0, 0) 4).toNatClampNeg, 0) 0)) (px_at td_Bo_measureDraws 8 rfl) lf_Bo_70 rfl rfl rfl ?_
  rcases px_ite h with ⟨hc4, h⟩ | ⟨hc4, h⟩
  · refine pw_icmp_ge 34 (px_at td_Bo_measureDraws 9 rfl) (by decide) (fun _ => ?_) (fun hn => absurd hc4 hn)
    refine pw_L [(0, .inr (some (2, k0, 0)))] [0] rfl ?_
    exact hX0 σ (Option.some.inj h).symm
  · refine pw_icmp_ge 34 (px_at td_Bo_measureDraws 9 rfl) (by decide) (fun hn => absurd hn hc4) (fun _ => ?_)
    refine pw_aload_n 0 (px_at td_Bo_measureDraws 10 rfl) rfl rfl ?_
    refine pw_getf (v := .inr (some (9, k0, 0))) (px_at td_Bo_measureDraws 11 rfl) lf_Bo_11 rfl rfl rfl ?_
    refine pw_iload_n 1 (px_at td_Bo_measureDraws 12 rfl) rfl rfl ?_
    obtain ⟨hi2, h⟩ := px_gd_e h
    refine pw_aald (r := (3, k0, v1.toNatClampNeg)) (px_at td_Bo_measureDraws 13 rfl) rfl (fun _ => rfl) hi2 rfl ?_
    refine pw_iconst (v := 0) (px_at td_Bo_measureDraws 14 rfl) (by decide) ?_
    obtain ⟨σ3, hσ3, h⟩ := px_l_e h
    refine pw_puti (px_at td_Bo_measureDraws 15 rfl) lw_Bo_253 rfl rfl (pw_s hσ3 ?_)
    refine pw_iinc (q := 1) (v := (v1 + 1)) (L' := [(1, .inl (v1 + 1)), (0, .inr (some (2, k0, 0)))]) (px_at td_Bo_measureDraws 16 rfl) rfl rfl (by decide) rfl ?_
    refine pw_goto 7 (px_at td_Bo_measureDraws 17 rfl) (by decide) ?_
    refine pw_L [(0, .inr (some (2, k0, 0))), (1, .inl (v1 + 1))] [1, 0] rfl ?_
    exact hC ((v1 + 1), σ3) (Option.some.inj h).symm
def Bo_measureDraws_L7 (k0 : Nat) : (Int32 × pxS) → Option ((Int32 × pxS) ⊕ (pxS)) := fun s => Bo_measureDraws_n7 s.2 k0 s.1
set_option maxRecDepth 100000 in
theorem Bo_measureDraws_L7_l {l : Launch} {ids : List pxI} {Rt : Option pxV → List pxI → pxG → pxS → Prop} {k0 : Nat} {n : Nat} {s : Int32 × pxS} {e : pxS} (h : px_it (Bo_measureDraws_L7 k0) n s = some e) (hX0 : pw l (px_R 2) y_Bo_measureDraws c_Bo_measureDraws 5 none 34 [(0, .inr (some (2, k0, 0)))] [] ids cG e 0 0 Rt) : pw l (px_R 2) y_Bo_measureDraws c_Bo_measureDraws 5 none 7 [(0, .inr (some (2, k0, 0))), (1, .inl s.1)] [] ids cG s.2 0 0 Rt := by
  refine px_it_rule (f := Bo_measureDraws_L7 k0) (C := fun s => pw l (px_R 2) y_Bo_measureDraws c_Bo_measureDraws 5 none 7 [(0, .inr (some (2, k0, 0))), (1, .inl s.1)] [] ids cG s.2 0 0 Rt) (X := fun e => (pw l (px_R 2) y_Bo_measureDraws c_Bo_measureDraws 5 none 34 [(0, .inr (some (2, k0, 0)))] [] ids cG e 0 0 Rt)) ?_ ?_ n s e h hX0
  · intro s s1 hf hC
    exact Bo_measureDraws_n7_l hf (fun s2 hs => by cases hs; exact hC) (fun e he => by cases he)
  · intro s e hf hX
    exact Bo_measureDraws_n7_l hf (fun s2 hs => by cases hs) (fun e1 he => by cases he; exact hX)
def Bo_measureDraws_n200 (σ : pxS) (k0 : Nat) (v1 : Int32) : Option ((Int32 × pxS) ⊕ (pxS)) :=
  some (.inl ((v1 + (-1)), σ))
set_option maxRecDepth 100000 in
theorem Bo_measureDraws_n200_l {l : Launch} {ids : List pxI} {Rt : Option pxV → List pxI → pxG → pxS → Prop} {σ : pxS} {k0 : Nat} {v1 : Int32} {o : (Int32 × pxS) ⊕ (pxS)} (h : Bo_measureDraws_n200 σ k0 v1 = some o) (hC : ∀ s, o = .inl s → pw l (px_R 2) y_Bo_measureDraws c_Bo_measureDraws 5 none 44 [(0, .inr (some (2, k0, 0))), (1, .inl s.1)] [] ids cG s.2 0 0 Rt) (hX0 : ∀ e, o = .inr e → pw l (px_R 2) y_Bo_measureDraws c_Bo_measureDraws 5 none 206 [] [] ids cG e 0 0 Rt) : pw l (px_R 2) y_Bo_measureDraws c_Bo_measureDraws 5 none 200 [(0, .inr (some (2, k0, 0))), (1, .inl v1)] [] ids cG σ 0 0 Rt := by
  unfold Bo_measureDraws_n200 at h
  refine pw_iinc (q := 1) (v := (v1 + (-1))) (L' := [(1, .inl (v1 + (-1))), (0, .inr (some (2, k0, 0)))]) (px_at td_Bo_measureDraws 109 rfl) rfl rfl (by decide) rfl ?_
  refine pw_goto 44 (px_at td_Bo_measureDraws 110 rfl) (by decide) ?_
  refine pw_L [(0, .inr (some (2, k0, 0))), (1, .inl (v1 + (-1)))] [1, 0] rfl ?_
  exact hC ((v1 + (-1)), σ) (Option.some.inj h).symm
def Bo_measureDraws_n187 (σ : pxS) (k0 : Nat) (v1 : Int32) (k2 : Nat) (j2 : Nat) : Option ((Int32 × pxS) ⊕ (pxS)) :=
  px_l (px_up σ (2, k0, 0) 6 ((σ (2, k0, 0) 6) + (σ (3, k2, j2) 5))) fun σ13 =>
  Bo_measureDraws_n200 σ13 k0 v1
set_option maxRecDepth 100000 in
theorem Bo_measureDraws_n187_l {l : Launch} {ids : List pxI} {Rt : Option pxV → List pxI → pxG → pxS → Prop} {σ : pxS} {k0 : Nat} {v1 : Int32} {k2 : Nat} {j2 : Nat} {o : (Int32 × pxS) ⊕ (pxS)} (h : Bo_measureDraws_n187 σ k0 v1 k2 j2 = some o) (hC : ∀ s, o = .inl s → pw l (px_R 2) y_Bo_measureDraws c_Bo_measureDraws 5 none 44 [(0, .inr (some (2, k0, 0))), (1, .inl s.1)] [] ids cG s.2 0 0 Rt) (hX0 : ∀ e, o = .inr e → pw l (px_R 2) y_Bo_measureDraws c_Bo_measureDraws 5 none 206 [] [] ids cG e 0 0 Rt) : pw l (px_R 2) y_Bo_measureDraws c_Bo_measureDraws 5 none 187 [(0, .inr (some (2, k0, 0))), (1, .inl v1), (2, .inr (some (3, k2, j2)))] [] ids cG σ 0 0 Rt := by
  unfold Bo_measureDraws_n187 at h
  refine pw_aload_n 0 (px_at td_Bo_measureDraws 102 rfl) rfl rfl ?_
  refine pw_dup (px_at td_Bo_measureDraws 103 rfl) ?_
  refine pw_getf (v := .inl (σ (2, k0, 0) 6)) (px_at td_Bo_measureDraws 104 rfl) lf_Bo_55 rfl rfl rfl ?_
  refine pw_aload_n 2 (px_at td_Bo_measureDraws 105 rfl) rfl rfl ?_
  refine pw_getf (v := .inl (σ (3, k2, j2) 5)) (px_at td_Bo_measureDraws 106 rfl) lf_Bo_253 rfl rfl rfl ?_
  refine pw_iadd (px_at td_Bo_measureDraws 107 rfl) ?_
  obtain ⟨σ13, hσ13, h⟩ := px_l_e h
  refine pw_puti (px_at td_Bo_measureDraws 108 rfl) lw_Bo_55 rfl rfl (pw_s hσ13 ?_)
  refine pw_L [(0, .inr (some (2, k0, 0))), (1, .inl v1)] [0, 1] rfl ?_
  exact Bo_measureDraws_n200_l h hC hX0
def Bo_measureDraws_n97 (σ : pxS) (k0 : Nat) (v1 : Int32) (k2 : Nat) (j2 : Nat) : Option ((Int32 × pxS) ⊕ (pxS)) :=
  px_gd v1 12 (px_l (px_up σ (3, k2, j2) 5 ((σ (3, k2, j2) 5) + (((σ (8, (σ (2, k0, 0) 4).toNatClampNeg, 4) v1.toNatClampNeg) * (σ (3, k2, j2) 4)) / 16))) fun σ10 =>
  (if (σ10 (3, k2, j2) 5) ≤ (σ10 (3, k2, j2) 1) then px_l (px_up σ10 (3, k2, j2) 6 0) fun σ11 =>
  px_gd v1 12 ((if (σ11 (8, (σ11 (2, k0, 0) 4).toNatClampNeg, 1) v1.toNatClampNeg) < 0 then Bo_measureDraws_n187 σ11 k0 v1 k2 j2 else (if v1 ≤ (σ11 (8, (σ11 (2, k0, 0) 4).toNatClampNeg, 1) v1.toNatClampNeg) then Bo_measureDraws_n187 σ11 k0 v1 k2 j2 else px_gd (σ11 (8, (σ11 (2, k0, 0) 4).toNatClampNeg, 1) v1.toNatClampNeg) 12 (px_l (px_up σ11 (3, k0, (σ11 (8, (σ11 (2, k0, 0) 4).toNatClampNeg, 1) v1.toNatClampNeg).toNatClampNeg) 5 ((σ11 (3, k0, (σ11 (8, (σ11 (2, k0, 0) 4).toNatClampNeg, 1) v1.toNatClampNeg).toNatClampNeg) 5) + (σ11 (3, k2, j2) 5))) fun σ15 =>
  Bo_measureDraws_n200 σ15 k0 v1)))) else px_l (px_up σ10 (3, k2, j2) 6 1) fun σ18 =>
  px_gd v1 12 ((if (σ18 (8, (σ18 (2, k0, 0) 4).toNatClampNeg, 1) v1.toNatClampNeg) < 0 then Bo_measureDraws_n187 σ18 k0 v1 k2 j2 else (if v1 ≤ (σ18 (8, (σ18 (2, k0, 0) 4).toNatClampNeg, 1) v1.toNatClampNeg) then Bo_measureDraws_n187 σ18 k0 v1 k2 j2 else px_gd (σ18 (8, (σ18 (2, k0, 0) 4).toNatClampNeg, 1) v1.toNatClampNeg) 12 (px_l (px_up σ18 (3, k0, (σ18 (8, (σ18 (2, k0, 0) 4).toNatClampNeg, 1) v1.toNatClampNeg).toNatClampNeg) 5 ((σ18 (3, k0, (σ18 (8, (σ18 (2, k0, 0) 4).toNatClampNeg, 1) v1.toNatClampNeg).toNatClampNeg) 5) + (σ18 (3, k2, j2) 5))) fun σ21 =>
  Bo_measureDraws_n200 σ21 k0 v1))))))
set_option maxRecDepth 100000 in
theorem Bo_measureDraws_n97_l {l : Launch} {ids : List pxI} {Rt : Option pxV → List pxI → pxG → pxS → Prop} {σ : pxS} {k0 : Nat} {v1 : Int32} {k2 : Nat} {j2 : Nat} {o : (Int32 × pxS) ⊕ (pxS)} (h : Bo_measureDraws_n97 σ k0 v1 k2 j2 = some o) (hC : ∀ s, o = .inl s → pw l (px_R 2) y_Bo_measureDraws c_Bo_measureDraws 5 none 44 [(0, .inr (some (2, k0, 0))), (1, .inl s.1)] [] ids cG s.2 0 0 Rt) (hX0 : ∀ e, o = .inr e → pw l (px_R 2) y_Bo_measureDraws c_Bo_measureDraws 5 none 206 [] [] ids cG e 0 0 Rt) : pw l (px_R 2) y_Bo_measureDraws c_Bo_measureDraws 5 none 97 [(0, .inr (some (2, k0, 0))), (1, .inl v1), (2, .inr (some (3, k2, j2)))] [] ids cG σ 0 0 Rt := by
  unfold Bo_measureDraws_n97 at h
  refine pw_aload_n 2 (px_at td_Bo_measureDraws 55 rfl) rfl rfl ?_
  refine pw_dup (px_at td_Bo_measureDraws 56 rfl) ?_
  refine pw_getf (v := .inl (σ (3, k2, j2) 5)) (px_at td_Bo_measureDraws 57 rfl) lf_Bo_253 rfl rfl rfl ?_
  refine pw_aload_n 0 (px_at td_Bo_measureDraws 58 rfl) rfl rfl ?_
  refine pw_getf (v := .inr (some (1, (σ (2, k0, 0) 4).toNatClampNeg, 0))) (px_at td_Bo_measureDraws 59 rfl) lf_Bo_31 rfl rfl rfl ?_
  refine pw_getf (v := .inr (some (8, (σ (2, k0, 0) 4).toNatClampNeg, 4))) (px_at td_Bo_measureDraws 60 rfl) lf_Bo_256 rfl rfl rfl ?_
  refine pw_iload_n 1 (px_at td_Bo_measureDraws 61 rfl) rfl rfl ?_
  obtain ⟨hi9, h⟩ := px_gd_e h
  refine pw_ial (px_at td_Bo_measureDraws 62 rfl) rfl hi9 rfl ?_
  refine pw_aload_n 2 (px_at td_Bo_measureDraws 63 rfl) rfl rfl ?_
  refine pw_getf (v := .inl (σ (3, k2, j2) 4)) (px_at td_Bo_measureDraws 64 rfl) lf_Bo_250 rfl rfl rfl ?_
  refine pw_imul (px_at td_Bo_measureDraws 65 rfl) ?_
  refine pw_bipush (v := 16) (px_at td_Bo_measureDraws 66 rfl) (by decide) ?_
  refine pw_idiv (px_at td_Bo_measureDraws 67 rfl) (by decide) ?_
  refine pw_iadd (px_at td_Bo_measureDraws 68 rfl) ?_
  obtain ⟨σ10, hσ10, h⟩ := px_l_e h
  refine pw_puti (px_at td_Bo_measureDraws 69 rfl) lw_Bo_253 rfl rfl (pw_s hσ10 ?_)
  refine pw_aload_n 2 (px_at td_Bo_measureDraws 70 rfl) rfl rfl ?_
  refine pw_aload_n 2 (px_at td_Bo_measureDraws 71 rfl) rfl rfl ?_
  refine pw_getf (v := .inl (σ10 (3, k2, j2) 5)) (px_at td_Bo_measureDraws 72 rfl) lf_Bo_253 rfl rfl rfl ?_
  refine pw_aload_n 2 (px_at td_Bo_measureDraws 73 rfl) rfl rfl ?_
  refine pw_getf (v := .inl (σ10 (3, k2, j2) 1)) (px_at td_Bo_measureDraws 74 rfl) lf_Bo_259 rfl rfl rfl ?_
  rcases px_ite h with ⟨hc24, h⟩ | ⟨hc24, h⟩
  · refine pw_icmp_le 139 (px_at td_Bo_measureDraws 75 rfl) (by decide) (fun _ => ?_) (fun hn => absurd hc24 hn)
    refine pw_iconst (v := 0) (px_at td_Bo_measureDraws 78 rfl) (by decide) ?_
    obtain ⟨σ11, hσ11, h⟩ := px_l_e h
    refine pw_putz (px_at td_Bo_measureDraws 79 rfl) lw_Bo_244 rfl rfl (by decide) (pw_s hσ11 ?_)
    refine pw_aload_n 0 (px_at td_Bo_measureDraws 80 rfl) rfl rfl ?_
    refine pw_getf (v := .inr (some (1, (σ11 (2, k0, 0) 4).toNatClampNeg, 0))) (px_at td_Bo_measureDraws 81 rfl) lf_Bo_31 rfl rfl rfl ?_
    refine pw_getf (v := .inr (some (8, (σ11 (2, k0, 0) 4).toNatClampNeg, 1))) (px_at td_Bo_measureDraws 82 rfl) lf_Bo_104 rfl rfl rfl ?_
    refine pw_iload_n 1 (px_at td_Bo_measureDraws 83 rfl) rfl rfl ?_
    obtain ⟨hi12, h⟩ := px_gd_e h
    refine pw_ial (px_at td_Bo_measureDraws 84 rfl) rfl hi12 rfl ?_
    refine pw_istore (L' := [(4, .inl (σ11 (8, (σ11 (2, k0, 0) 4).toNatClampNeg, 1) v1.toNatClampNeg)), (0, .inr (some (2, k0, 0))), (1, .inl v1), (2, .inr (some (3, k2, j2)))]) (px_at td_Bo_measureDraws 85 rfl) (by decide) rfl ?_
    refine pw_iload 0 (px_at td_Bo_measureDraws 86 rfl) rfl ?_
    rcases px_ite h with ⟨hc17, h⟩ | ⟨hc17, h⟩
    · refine pw_if_lt 187 (px_at td_Bo_measureDraws 87 rfl) (by decide) (fun _ => ?_) (fun hn => absurd hc17 hn)
      refine pw_L [(0, .inr (some (2, k0, 0))), (1, .inl v1), (2, .inr (some (3, k2, j2)))] [1, 2, 3] rfl ?_
      exact Bo_measureDraws_n187_l h hC hX0
    · refine pw_if_lt 187 (px_at td_Bo_measureDraws 87 rfl) (by decide) (fun hn => absurd hn hc17) (fun _ => ?_)
      refine pw_iload 0 (px_at td_Bo_measureDraws 88 rfl) rfl ?_
      refine pw_iload_n 2 (px_at td_Bo_measureDraws 89 rfl) rfl rfl ?_
      rcases px_ite h with ⟨hc16, h⟩ | ⟨hc16, h⟩
      · refine pw_icmp_ge 187 (px_at td_Bo_measureDraws 90 rfl) (by decide) (fun _ => ?_) (fun hn => absurd hc16 hn)
        refine pw_L [(0, .inr (some (2, k0, 0))), (1, .inl v1), (2, .inr (some (3, k2, j2)))] [1, 2, 3] rfl ?_
        exact Bo_measureDraws_n187_l h hC hX0
      · refine pw_icmp_ge 187 (px_at td_Bo_measureDraws 90 rfl) (by decide) (fun hn => absurd hn hc16) (fun _ => ?_)
        refine pw_aload_n 1 (px_at td_Bo_measureDraws 91 rfl) rfl rfl ?_
        refine pw_getf (v := .inr (some (9, k0, 0))) (px_at td_Bo_measureDraws 92 rfl) lf_Bo_11 rfl rfl rfl ?_
        refine pw_iload 0 (px_at td_Bo_measureDraws 93 rfl) rfl ?_
        obtain ⟨hi14, h⟩ := px_gd_e h
        refine pw_aald (r := (3, k0, (σ11 (8, (σ11 (2, k0, 0) 4).toNatClampNeg, 1) v1.toNatClampNeg).toNatClampNeg)) (px_at td_Bo_measureDraws 94 rfl) rfl (fun _ => rfl) hi14 rfl ?_
        refine pw_dup (px_at td_Bo_measureDraws 95 rfl) ?_
        refine pw_getf (v := .inl (σ11 (3, k0, (σ11 (8, (σ11 (2, k0, 0) 4).toNatClampNeg, 1) v1.toNatClampNeg).toNatClampNeg) 5)) (px_at td_Bo_measureDraws 96 rfl) lf_Bo_253 rfl rfl rfl ?_
        refine pw_aload_n 3 (px_at td_Bo_measureDraws 97 rfl) rfl rfl ?_
        refine pw_getf (v := .inl (σ11 (3, k2, j2) 5)) (px_at td_Bo_measureDraws 98 rfl) lf_Bo_253 rfl rfl rfl ?_
        refine pw_iadd (px_at td_Bo_measureDraws 99 rfl) ?_
        obtain ⟨σ15, hσ15, h⟩ := px_l_e h
        refine pw_puti (px_at td_Bo_measureDraws 100 rfl) lw_Bo_253 rfl rfl (pw_s hσ15 ?_)
        refine pw_goto 200 (px_at td_Bo_measureDraws 101 rfl) (by decide) ?_
        refine pw_L [(0, .inr (some (2, k0, 0))), (1, .inl v1)] [1, 2] rfl ?_
        exact Bo_measureDraws_n200_l h hC hX0
  · refine pw_icmp_le 139 (px_at td_Bo_measureDraws 75 rfl) (by decide) (fun hn => absurd hn hc24) (fun _ => ?_)
    refine pw_iconst (v := 1) (px_at td_Bo_measureDraws 76 rfl) (by decide) ?_
    refine pw_goto 140 (px_at td_Bo_measureDraws 77 rfl) (by decide) ?_
    obtain ⟨σ18, hσ18, h⟩ := px_l_e h
    refine pw_putz (px_at td_Bo_measureDraws 79 rfl) lw_Bo_244 rfl rfl (by decide) (pw_s hσ18 ?_)
    refine pw_aload_n 0 (px_at td_Bo_measureDraws 80 rfl) rfl rfl ?_
    refine pw_getf (v := .inr (some (1, (σ18 (2, k0, 0) 4).toNatClampNeg, 0))) (px_at td_Bo_measureDraws 81 rfl) lf_Bo_31 rfl rfl rfl ?_
    refine pw_getf (v := .inr (some (8, (σ18 (2, k0, 0) 4).toNatClampNeg, 1))) (px_at td_Bo_measureDraws 82 rfl) lf_Bo_104 rfl rfl rfl ?_
    refine pw_iload_n 1 (px_at td_Bo_measureDraws 83 rfl) rfl rfl ?_
    obtain ⟨hi19, h⟩ := px_gd_e h
    refine pw_ial (px_at td_Bo_measureDraws 84 rfl) rfl hi19 rfl ?_
    refine pw_istore (L' := [(4, .inl (σ18 (8, (σ18 (2, k0, 0) 4).toNatClampNeg, 1) v1.toNatClampNeg)), (0, .inr (some (2, k0, 0))), (1, .inl v1), (2, .inr (some (3, k2, j2)))]) (px_at td_Bo_measureDraws 85 rfl) (by decide) rfl ?_
    refine pw_iload 0 (px_at td_Bo_measureDraws 86 rfl) rfl ?_
    rcases px_ite h with ⟨hc23, h⟩ | ⟨hc23, h⟩
    · refine pw_if_lt 187 (px_at td_Bo_measureDraws 87 rfl) (by decide) (fun _ => ?_) (fun hn => absurd hc23 hn)
      refine pw_L [(0, .inr (some (2, k0, 0))), (1, .inl v1), (2, .inr (some (3, k2, j2)))] [1, 2, 3] rfl ?_
      exact Bo_measureDraws_n187_l h hC hX0
    · refine pw_if_lt 187 (px_at td_Bo_measureDraws 87 rfl) (by decide) (fun hn => absurd hn hc23) (fun _ => ?_)
      refine pw_iload 0 (px_at td_Bo_measureDraws 88 rfl) rfl ?_
      refine pw_iload_n 2 (px_at td_Bo_measureDraws 89 rfl) rfl rfl ?_
      rcases px_ite h with ⟨hc22, h⟩ | ⟨hc22, h⟩
      · refine pw_icmp_ge 187 (px_at td_Bo_measureDraws 90 rfl) (by decide) (fun _ => ?_) (fun hn => absurd hc22 hn)
        refine pw_L [(0, .inr (some (2, k0, 0))), (1, .inl v1), (2, .inr (some (3, k2, j2)))] [1, 2, 3] rfl ?_
        exact Bo_measureDraws_n187_l h hC hX0
      · refine pw_icmp_ge 187 (px_at td_Bo_measureDraws 90 rfl) (by decide) (fun hn => absurd hn hc22) (fun _ => ?_)
        refine pw_aload_n 1 (px_at td_Bo_measureDraws 91 rfl) rfl rfl ?_
        refine pw_getf (v := .inr (some (9, k0, 0))) (px_at td_Bo_measureDraws 92 rfl) lf_Bo_11 rfl rfl rfl ?_
        refine pw_iload 0 (px_at td_Bo_measureDraws 93 rfl) rfl ?_
        obtain ⟨hi20, h⟩ := px_gd_e h
        refine pw_aald (r := (3, k0, (σ18 (8, (σ18 (2, k0, 0) 4).toNatClampNeg, 1) v1.toNatClampNeg).toNatClampNeg)) (px_at td_Bo_measureDraws 94 rfl) rfl (fun _ => rfl) hi20 rfl ?_
        refine pw_dup (px_at td_Bo_measureDraws 95 rfl) ?_
        refine pw_getf (v := .inl (σ18 (3, k0, (σ18 (8, (σ18 (2, k0, 0) 4).toNatClampNeg, 1) v1.toNatClampNeg).toNatClampNeg) 5)) (px_at td_Bo_measureDraws 96 rfl) lf_Bo_253 rfl rfl rfl ?_
        refine pw_aload_n 3 (px_at td_Bo_measureDraws 97 rfl) rfl rfl ?_
        refine pw_getf (v := .inl (σ18 (3, k2, j2) 5)) (px_at td_Bo_measureDraws 98 rfl) lf_Bo_253 rfl rfl rfl ?_
        refine pw_iadd (px_at td_Bo_measureDraws 99 rfl) ?_
        obtain ⟨σ21, hσ21, h⟩ := px_l_e h
        refine pw_puti (px_at td_Bo_measureDraws 100 rfl) lw_Bo_253 rfl rfl (pw_s hσ21 ?_)
        refine pw_goto 200 (px_at td_Bo_measureDraws 101 rfl) (by decide) ?_
        refine pw_L [(0, .inr (some (2, k0, 0))), (1, .inl v1)] [1, 2] rfl ?_
        exact Bo_measureDraws_n200_l h hC hX0
def Bo_measureDraws_n44 (σ : pxS) (k0 : Nat) (v1 : Int32) : Option ((Int32 × pxS) ⊕ (pxS)) :=
  (if v1 < 0 then some (.inr σ) else px_gd v1 12 (px_gd v1 12 (px_b1 (F_Bo_isOn σ k0 v1) fun r8 =>
  (if r8 = 0 then Bo_measureDraws_n97 σ k0 v1 k0 v1.toNatClampNeg else (if (σ (8, (σ (2, k0, 0) 4).toNatClampNeg, 2) v1.toNatClampNeg) ≤ 0 then Bo_measureDraws_n97 σ k0 v1 k0 v1.toNatClampNeg else px_gz (σ (8, (σ (2, k0, 0) 4).toNatClampNeg, 2) v1.toNatClampNeg) (px_l (px_up σ (3, k0, v1.toNatClampNeg) 5 ((σ (3, k0, v1.toNatClampNeg) 5) + (((σ (3, k0, v1.toNatClampNeg) 0) * (σ (3, k0, v1.toNatClampNeg) 3)) / (σ (8, (σ (2, k0, 0) 4).toNatClampNeg, 2) v1.toNatClampNeg)))) fun σ26 =>
  Bo_measureDraws_n97 σ26 k0 v1 k0 v1.toNatClampNeg))))))
set_option maxRecDepth 100000 in
theorem Bo_measureDraws_n44_l {l : Launch} {ids : List pxI} {Rt : Option pxV → List pxI → pxG → pxS → Prop} {σ : pxS} {k0 : Nat} {v1 : Int32} {o : (Int32 × pxS) ⊕ (pxS)} (h : Bo_measureDraws_n44 σ k0 v1 = some o) (hC : ∀ s, o = .inl s → pw l (px_R 2) y_Bo_measureDraws c_Bo_measureDraws 5 none 44 [(0, .inr (some (2, k0, 0))), (1, .inl s.1)] [] ids cG s.2 0 0 Rt) (hX0 : ∀ e, o = .inr e → pw l (px_R 2) y_Bo_measureDraws c_Bo_measureDraws 5 none 206 [] [] ids cG e 0 0 Rt) : pw l (px_R 2) y_Bo_measureDraws c_Bo_measureDraws 5 none 44 [(0, .inr (some (2, k0, 0))), (1, .inl v1)] [] ids cG σ 0 0 Rt := by
  unfold Bo_measureDraws_n44 at h
  refine pw_iload_n 1 (px_at td_Bo_measureDraws 24 rfl) rfl rfl ?_
  rcases px_ite h with ⟨hc29, h⟩ | ⟨hc29, h⟩
  · refine pw_if_lt 206 (px_at td_Bo_measureDraws 25 rfl) (by decide) (fun _ => ?_) (fun hn => absurd hc29 hn)
    refine pw_L [] [] rfl ?_
    exact hX0 σ (Option.some.inj h).symm
  · refine pw_if_lt 206 (px_at td_Bo_measureDraws 25 rfl) (by decide) (fun hn => absurd hn hc29) (fun _ => ?_)
    refine pw_aload_n 0 (px_at td_Bo_measureDraws 26 rfl) rfl rfl ?_
    refine pw_getf (v := .inr (some (9, k0, 0))) (px_at td_Bo_measureDraws 27 rfl) lf_Bo_11 rfl rfl rfl ?_
    refine pw_iload_n 1 (px_at td_Bo_measureDraws 28 rfl) rfl rfl ?_
    obtain ⟨hi6, h⟩ := px_gd_e h
    refine pw_aald (r := (3, k0, v1.toNatClampNeg)) (px_at td_Bo_measureDraws 29 rfl) rfl (fun _ => rfl) hi6 rfl ?_
    refine pw_astore_n (L' := [(2, .inr (some (3, k0, v1.toNatClampNeg))), (0, .inr (some (2, k0, 0))), (1, .inl v1)]) (px_at td_Bo_measureDraws 30 rfl) rfl (by decide) rfl ?_
    refine pw_aload_n 1 (px_at td_Bo_measureDraws 31 rfl) rfl rfl ?_
    refine pw_getf (v := .inr (some (1, (σ (2, k0, 0) 4).toNatClampNeg, 0))) (px_at td_Bo_measureDraws 32 rfl) lf_Bo_31 rfl rfl rfl ?_
    refine pw_getf (v := .inr (some (8, (σ (2, k0, 0) 4).toNatClampNeg, 2))) (px_at td_Bo_measureDraws 33 rfl) lf_Bo_91 rfl rfl rfl ?_
    refine pw_iload_n 2 (px_at td_Bo_measureDraws 34 rfl) rfl rfl ?_
    obtain ⟨hi7, h⟩ := px_gd_e h
    refine pw_ial (px_at td_Bo_measureDraws 35 rfl) rfl hi7 rfl ?_
    refine pw_istore_n (L' := [(3, .inl (σ (8, (σ (2, k0, 0) 4).toNatClampNeg, 2) v1.toNatClampNeg)), (2, .inr (some (3, k0, v1.toNatClampNeg))), (0, .inr (some (2, k0, 0))), (1, .inl v1)]) (px_at td_Bo_measureDraws 36 rfl) rfl (by decide) rfl ?_
    refine pw_aload_n 2 (px_at td_Bo_measureDraws 37 rfl) rfl rfl ?_
    refine pw_iload_n 3 (px_at td_Bo_measureDraws 38 rfl) rfl rfl ?_
    obtain ⟨r8, hk8, h⟩ := px_b1_e h
    refine pw_cV1 (2, k0, 0) [.inl v1] [] (px_at td_Bo_measureDraws 39 rfl) lV_Bo_139 rfl rfl rfl (Nat.le_of_ble_eq_true rfl) (by decide) (k_Bo_isOn hk8) ?_
    rcases px_ite h with ⟨hc28, h⟩ | ⟨hc28, h⟩
    · refine pw_if_eq 97 (px_at td_Bo_measureDraws 40 rfl) (by decide) (fun _ => ?_) (fun hn => absurd hc28 hn)
      refine pw_L [(0, .inr (some (2, k0, 0))), (1, .inl v1), (2, .inr (some (3, k0, v1.toNatClampNeg)))] [2, 3, 1] rfl ?_
      exact Bo_measureDraws_n97_l h hC hX0
    · refine pw_if_eq 97 (px_at td_Bo_measureDraws 40 rfl) (by decide) (fun hn => absurd hn hc28) (fun _ => ?_)
      refine pw_iload_n 0 (px_at td_Bo_measureDraws 41 rfl) rfl rfl ?_
      rcases px_ite h with ⟨hc27, h⟩ | ⟨hc27, h⟩
      · refine pw_if_le 97 (px_at td_Bo_measureDraws 42 rfl) (by decide) (fun _ => ?_) (fun hn => absurd hc27 hn)
        refine pw_L [(0, .inr (some (2, k0, 0))), (1, .inl v1), (2, .inr (some (3, k0, v1.toNatClampNeg)))] [2, 3, 1] rfl ?_
        exact Bo_measureDraws_n97_l h hC hX0
      · refine pw_if_le 97 (px_at td_Bo_measureDraws 42 rfl) (by decide) (fun hn => absurd hn hc27) (fun _ => ?_)
        refine pw_aload_n 1 (px_at td_Bo_measureDraws 43 rfl) rfl rfl ?_
        refine pw_dup (px_at td_Bo_measureDraws 44 rfl) ?_
        refine pw_getf (v := .inl (σ (3, k0, v1.toNatClampNeg) 5)) (px_at td_Bo_measureDraws 45 rfl) lf_Bo_253 rfl rfl rfl ?_
        refine pw_aload_n 1 (px_at td_Bo_measureDraws 46 rfl) rfl rfl ?_
        refine pw_getf (v := .inl (σ (3, k0, v1.toNatClampNeg) 0)) (px_at td_Bo_measureDraws 47 rfl) lf_Bo_197 rfl rfl rfl ?_
        refine pw_aload_n 1 (px_at td_Bo_measureDraws 48 rfl) rfl rfl ?_
        refine pw_getf (v := .inl (σ (3, k0, v1.toNatClampNeg) 3)) (px_at td_Bo_measureDraws 49 rfl) lf_Bo_88 rfl rfl rfl ?_
        refine pw_imul (px_at td_Bo_measureDraws 50 rfl) ?_
        refine pw_iload_n 0 (px_at td_Bo_measureDraws 51 rfl) rfl rfl ?_
        obtain ⟨hz25, h⟩ := px_gz_e h
        refine pw_idiv (px_at td_Bo_measureDraws 52 rfl) hz25 ?_
        refine pw_iadd (px_at td_Bo_measureDraws 53 rfl) ?_
        obtain ⟨σ26, hσ26, h⟩ := px_l_e h
        refine pw_puti (px_at td_Bo_measureDraws 54 rfl) lw_Bo_253 rfl rfl (pw_s hσ26 ?_)
        refine pw_L [(0, .inr (some (2, k0, 0))), (1, .inl v1), (2, .inr (some (3, k0, v1.toNatClampNeg)))] [2, 3, 1] rfl ?_
        exact Bo_measureDraws_n97_l h hC hX0
def Bo_measureDraws_L44 (k0 : Nat) : (Int32 × pxS) → Option ((Int32 × pxS) ⊕ (pxS)) := fun s => Bo_measureDraws_n44 s.2 k0 s.1
set_option maxRecDepth 100000 in
theorem Bo_measureDraws_L44_l {l : Launch} {ids : List pxI} {Rt : Option pxV → List pxI → pxG → pxS → Prop} {k0 : Nat} {n : Nat} {s : Int32 × pxS} {e : pxS} (h : px_it (Bo_measureDraws_L44 k0) n s = some e) (hX0 : pw l (px_R 2) y_Bo_measureDraws c_Bo_measureDraws 5 none 206 [] [] ids cG e 0 0 Rt) : pw l (px_R 2) y_Bo_measureDraws c_Bo_measureDraws 5 none 44 [(0, .inr (some (2, k0, 0))), (1, .inl s.1)] [] ids cG s.2 0 0 Rt := by
  refine px_it_rule (f := Bo_measureDraws_L44 k0) (C := fun s => pw l (px_R 2) y_Bo_measureDraws c_Bo_measureDraws 5 none 44 [(0, .inr (some (2, k0, 0))), (1, .inl s.1)] [] ids cG s.2 0 0 Rt) (X := fun e => (pw l (px_R 2) y_Bo_measureDraws c_Bo_measureDraws 5 none 206 [] [] ids cG e 0 0 Rt)) ?_ ?_ n s e h hX0
  · intro s s1 hf hC
    exact Bo_measureDraws_n44_l hf (fun s2 hs => by cases hs; exact hC) (fun e he => by cases he)
  · intro s e hf hX
    exact Bo_measureDraws_n44_l hf (fun s2 hs => by cases hs) (fun e1 he => by cases he; exact hX)
def F_Bo_measureDraws (σ : pxS) (k0 : Nat) : Option (pxS) :=
  px_l (px_up σ (2, k0, 0) 6 0) fun σ1 =>
  px_b1 (px_it (Bo_measureDraws_L7 k0) px_N (0, σ1)) fun e5 =>
  px_b1 (px_it (Bo_measureDraws_L44 k0) px_N (((e5 (1, (e5 (2, k0, 0) 4).toNatClampNeg, 0) 0) - 1), e5)) fun e30 =>
  some e30
set_option maxRecDepth 100000 in
theorem e_Bo_measureDraws {l : Launch} {ids : List pxI} {Rt : Option pxV → List pxI → pxG → pxS → Prop} {σ : pxS} {k0 : Nat} {res : pxS} (h : F_Bo_measureDraws σ k0 = some res) (hR : Rt none ids cG res) : pw l (px_R 2) y_Bo_measureDraws c_Bo_measureDraws 5 none 0 [(0, .inr (some (2, k0, 0)))] [] ids cG σ 0 0 Rt := by
  unfold F_Bo_measureDraws at h
  refine pw_aload_n 0 (px_at td_Bo_measureDraws 0 rfl) rfl rfl ?_
  refine pw_iconst (v := 0) (px_at td_Bo_measureDraws 1 rfl) (by decide) ?_
  obtain ⟨σ1, hσ1, h⟩ := px_l_e h
  refine pw_puti (px_at td_Bo_measureDraws 2 rfl) lw_Bo_55 rfl rfl (pw_s hσ1 ?_)
  refine pw_iconst (v := 0) (px_at td_Bo_measureDraws 3 rfl) (by decide) ?_
  refine pw_istore_n (L' := [(1, .inl 0), (0, .inr (some (2, k0, 0)))]) (px_at td_Bo_measureDraws 4 rfl) rfl (by decide) rfl ?_
  obtain ⟨e5, he5, h⟩ := px_b1_e h
  refine pw_L [(0, .inr (some (2, k0, 0))), (1, .inl 0)] [1, 0] rfl ?_
  refine Bo_measureDraws_L7_l he5 ?_
  refine pw_aload_n 0 (px_at td_Bo_measureDraws 18 rfl) rfl rfl ?_
  refine pw_getf (v := .inr (some (1, (e5 (2, k0, 0) 4).toNatClampNeg, 0))) (px_at td_Bo_measureDraws 19 rfl) lf_Bo_31 rfl rfl rfl ?_
  refine pw_getf (v := .inl (e5 (1, (e5 (2, k0, 0) 4).toNatClampNeg, 0) 0)) (px_at td_Bo_measureDraws 20 rfl) lf_Bo_70 rfl rfl rfl ?_
  refine pw_iconst (v := 1) (px_at td_Bo_measureDraws 21 rfl) (by decide) ?_
  refine pw_isub (px_at td_Bo_measureDraws 22 rfl) ?_
  refine pw_istore_n (L' := [(1, .inl ((e5 (1, (e5 (2, k0, 0) 4).toNatClampNeg, 0) 0) - 1)), (0, .inr (some (2, k0, 0)))]) (px_at td_Bo_measureDraws 23 rfl) rfl (by decide) rfl ?_
  obtain ⟨e30, he30, h⟩ := px_b1_e h
  refine pw_L [(0, .inr (some (2, k0, 0))), (1, .inl ((e5 (1, (e5 (2, k0, 0) 4).toNatClampNeg, 0) 0) - 1))] [1, 0] rfl ?_
  refine Bo_measureDraws_L44_l he30 ?_
  obtain rfl := Option.some.inj h
  exact pw_vret (px_at td_Bo_measureDraws 111 rfl) rfl (Nat.le_refl 0) (Nat.le_refl 0) hR
theorem k_Bo_measureDraws {l : Launch} {ids : List pxI} {σ : pxS} {k0 : Nat} {res : pxS} (h : F_Bo_measureDraws σ k0 = some res) : pm l y_Bo_measureDraws c_Bo_measureDraws 5 none (px_R 2) [.inr (some (2, k0, 0))] ids cG σ (px_r none ids cG res) :=
  pm_ofF (by decide +kernel) (Nat.le_of_ble_eq_true rfl) (e_Bo_measureDraws h ⟨rfl, rfl, rfl, rfl⟩)
/-! Bo_tripTheLow -/
def Bo_tripTheLow_n82 (σ : pxS) (k0 : Nat) (v1 : Int32) : Option ((Int32 × pxS) ⊕ (pxS)) :=
  some (.inl ((v1 + 1), σ))
set_option maxRecDepth 100000 in
theorem Bo_tripTheLow_n82_l {l : Launch} {ids : List pxI} {Rt : Option pxV → List pxI → pxG → pxS → Prop} {σ : pxS} {k0 : Nat} {v1 : Int32} {o : (Int32 × pxS) ⊕ (pxS)} (h : Bo_tripTheLow_n82 σ k0 v1 = some o) (hC : ∀ s, o = .inl s → pw l (px_R 5) y_Bo_tripTheLow c_Bo_tripTheLow 3 none 2 [(0, .inr (some (2, k0, 0))), (1, .inl s.1)] [] ids cG s.2 0 0 Rt) (hX0 : ∀ e, o = .inr e → pw l (px_R 5) y_Bo_tripTheLow c_Bo_tripTheLow 3 none 88 [] [] ids cG e 0 0 Rt) : pw l (px_R 5) y_Bo_tripTheLow c_Bo_tripTheLow 3 none 82 [(0, .inr (some (2, k0, 0))), (1, .inl v1)] [] ids cG σ 0 0 Rt := by
  unfold Bo_tripTheLow_n82 at h
  refine pw_iinc (q := 1) (v := (v1 + 1)) (L' := [(1, .inl (v1 + 1)), (0, .inr (some (2, k0, 0)))]) (px_at td_Bo_tripTheLow 44 rfl) rfl rfl (by decide) rfl ?_
  refine pw_goto 2 (px_at td_Bo_tripTheLow 45 rfl) (by decide) ?_
  refine pw_L [(0, .inr (some (2, k0, 0))), (1, .inl (v1 + 1))] [1, 0] rfl ?_
  exact hC ((v1 + 1), σ) (Option.some.inj h).symm
def Bo_tripTheLow_n2 (σ : pxS) (k0 : Nat) (v1 : Int32) : Option ((Int32 × pxS) ⊕ (pxS)) :=
  (if (σ (1, (σ (2, k0, 0) 4).toNatClampNeg, 0) 0) ≤ v1 then some (.inr σ) else px_gd v1 12 ((if (σ (3, k0, v1.toNatClampNeg) 2) = 3 then px_b1 (F_Bo_isGood σ k0 v1) fun r7 =>
  (if r7 = 0 then px_l (px_up σ (3, k0, v1.toNatClampNeg) 7 ((σ (3, k0, v1.toNatClampNeg) 7) + 1)) fun σ13 =>
  (if (σ13 (3, k0, v1.toNatClampNeg) 7) < (σ13 (8, (σ13 (2, k0, 0) 4).toNatClampNeg, 14) 3) then Bo_tripTheLow_n82 σ13 k0 v1 else px_b1 (F_Qu_holds σ13 k0 1 v1) fun r14 =>
  (if r14 = 0 then px_b1 (F_Bo_trip σ13 k0 v1) fun σ15 =>
  Bo_tripTheLow_n82 σ15 k0 v1 else Bo_tripTheLow_n82 σ13 k0 v1)) else px_l (px_up σ (3, k0, v1.toNatClampNeg) 7 0) fun σ8 =>
  (if (σ8 (3, k0, v1.toNatClampNeg) 7) < (σ8 (8, (σ8 (2, k0, 0) 4).toNatClampNeg, 14) 3) then Bo_tripTheLow_n82 σ8 k0 v1 else px_b1 (F_Qu_holds σ8 k0 1 v1) fun r9 =>
  (if r9 = 0 then px_b1 (F_Bo_trip σ8 k0 v1) fun σ10 =>
  Bo_tripTheLow_n82 σ10 k0 v1 else Bo_tripTheLow_n82 σ8 k0 v1))) else px_l (px_up σ (3, k0, v1.toNatClampNeg) 7 0) fun σ2 =>
  (if (σ2 (3, k0, v1.toNatClampNeg) 7) < (σ2 (8, (σ2 (2, k0, 0) 4).toNatClampNeg, 14) 3) then Bo_tripTheLow_n82 σ2 k0 v1 else px_b1 (F_Qu_holds σ2 k0 1 v1) fun r3 =>
  (if r3 = 0 then px_b1 (F_Bo_trip σ2 k0 v1) fun σ4 =>
  Bo_tripTheLow_n82 σ4 k0 v1 else Bo_tripTheLow_n82 σ2 k0 v1)))))
set_option maxRecDepth 100000 in
theorem Bo_tripTheLow_n2_l {l : Launch} {ids : List pxI} {Rt : Option pxV → List pxI → pxG → pxS → Prop} {σ : pxS} {k0 : Nat} {v1 : Int32} {o : (Int32 × pxS) ⊕ (pxS)} (h : Bo_tripTheLow_n2 σ k0 v1 = some o) (hC : ∀ s, o = .inl s → pw l (px_R 5) y_Bo_tripTheLow c_Bo_tripTheLow 3 none 2 [(0, .inr (some (2, k0, 0))), (1, .inl s.1)] [] ids cG s.2 0 0 Rt) (hX0 : ∀ e, o = .inr e → pw l (px_R 5) y_Bo_tripTheLow c_Bo_tripTheLow 3 none 88 [] [] ids cG e 0 0 Rt) : pw l (px_R 5) y_Bo_tripTheLow c_Bo_tripTheLow 3 none 2 [(0, .inr (some (2, k0, 0))), (1, .inl v1)] [] ids cG σ 0 0 Rt := by
  unfold Bo_tripTheLow_n2 at h
  refine pw_iload_n 1 (px_at td_Bo_tripTheLow 2 rfl) rfl rfl ?_
  refine pw_aload_n 0 (px_at td_Bo_tripTheLow 3 rfl) rfl rfl ?_
  refine pw_getf (v := .inr (some (1, (σ (2, k0, 0) 4).toNatClampNeg, 0))) (px_at td_Bo_tripTheLow 4 rfl) lf_Bo_31 rfl rfl rfl ?_
  refine pw_getf (v := .inl (σ (1, (σ (2, k0, 0) 4).toNatClampNeg, 0) 0)) (px_at td_Bo_tripTheLow 5 rfl) lf_Bo_70 rfl rfl rfl ?_
  rcases px_ite h with ⟨hc20, h⟩ | ⟨hc20, h⟩
  · refine pw_icmp_ge 88 (px_at td_Bo_tripTheLow 6 rfl) (by decide) (fun _ => ?_) (fun hn => absurd hc20 hn)
    refine pw_L [] [] rfl ?_
    exact hX0 σ (Option.some.inj h).symm
  · refine pw_icmp_ge 88 (px_at td_Bo_tripTheLow 6 rfl) (by decide) (fun hn => absurd hn hc20) (fun _ => ?_)
    refine pw_aload_n 0 (px_at td_Bo_tripTheLow 7 rfl) rfl rfl ?_
    refine pw_getf (v := .inr (some (9, k0, 0))) (px_at td_Bo_tripTheLow 8 rfl) lf_Bo_11 rfl rfl rfl ?_
    refine pw_iload_n 1 (px_at td_Bo_tripTheLow 9 rfl) rfl rfl ?_
    obtain ⟨hi1, h⟩ := px_gd_e h
    refine pw_aald (r := (3, k0, v1.toNatClampNeg)) (px_at td_Bo_tripTheLow 10 rfl) rfl (fun _ => rfl) hi1 rfl ?_
    refine pw_astore_n (L' := [(2, .inr (some (3, k0, v1.toNatClampNeg))), (0, .inr (some (2, k0, 0))), (1, .inl v1)]) (px_at td_Bo_tripTheLow 11 rfl) rfl (by decide) rfl ?_
    refine pw_aload_n 0 (px_at td_Bo_tripTheLow 12 rfl) rfl rfl ?_
    refine pw_aload_n 0 (px_at td_Bo_tripTheLow 13 rfl) rfl rfl ?_
    refine pw_getf (v := .inl (σ (3, k0, v1.toNatClampNeg) 2)) (px_at td_Bo_tripTheLow 14 rfl) lf_Bo_85 rfl rfl rfl ?_
    refine pw_iconst (v := 3) (px_at td_Bo_tripTheLow 15 rfl) (by decide) ?_
    rcases px_ite h with ⟨hc19, h⟩ | ⟨hc19, h⟩
    · refine pw_icmp_ne 46 (px_at td_Bo_tripTheLow 16 rfl) (by decide) (fun hn => absurd hc19 hn) (fun _ => ?_)
      refine pw_aload_n 1 (px_at td_Bo_tripTheLow 17 rfl) rfl rfl ?_
      refine pw_iload_n 2 (px_at td_Bo_tripTheLow 18 rfl) rfl rfl ?_
      obtain ⟨r7, hk7, h⟩ := px_b1_e h
      refine pw_cV1 (2, k0, 0) [.inl v1] [.inr (some (3, k0, v1.toNatClampNeg))] (px_at td_Bo_tripTheLow 19 rfl) lV_Bo_97 rfl rfl rfl (Nat.le_of_ble_eq_true rfl) (by decide) (k_Bo_isGood hk7) ?_
      rcases px_ite h with ⟨hc18, h⟩ | ⟨hc18, h⟩
      · refine pw_if_ne 46 (px_at td_Bo_tripTheLow 20 rfl) (by decide) (fun hn => absurd hc18 hn) (fun _ => ?_)
        refine pw_aload_n 0 (px_at td_Bo_tripTheLow 21 rfl) rfl rfl ?_
        refine pw_getf (v := .inl (σ (3, k0, v1.toNatClampNeg) 7)) (px_at td_Bo_tripTheLow 22 rfl) lf_Bo_262 rfl rfl rfl ?_
        refine pw_iconst (v := 1) (px_at td_Bo_tripTheLow 23 rfl) (by decide) ?_
        refine pw_iadd (px_at td_Bo_tripTheLow 24 rfl) ?_
        refine pw_goto 47 (px_at td_Bo_tripTheLow 25 rfl) (by decide) ?_
        obtain ⟨σ13, hσ13, h⟩ := px_l_e h
        refine pw_puti (px_at td_Bo_tripTheLow 27 rfl) lw_Bo_262 rfl rfl (pw_s hσ13 ?_)
        refine pw_aload_n 0 (px_at td_Bo_tripTheLow 28 rfl) rfl rfl ?_
        refine pw_getf (v := .inl (σ13 (3, k0, v1.toNatClampNeg) 7)) (px_at td_Bo_tripTheLow 29 rfl) lf_Bo_262 rfl rfl rfl ?_
        refine pw_aload_n 1 (px_at td_Bo_tripTheLow 30 rfl) rfl rfl ?_
        refine pw_getf (v := .inr (some (1, (σ13 (2, k0, 0) 4).toNatClampNeg, 0))) (px_at td_Bo_tripTheLow 31 rfl) lf_Bo_31 rfl rfl rfl ?_
        refine pw_getf (v := .inr (some (8, (σ13 (2, k0, 0) 4).toNatClampNeg, 14))) (px_at td_Bo_tripTheLow 32 rfl) lf_Bo_94 rfl rfl rfl ?_
        refine pw_iconst (v := 3) (px_at td_Bo_tripTheLow 33 rfl) (by decide) ?_
        refine pw_ial (px_at td_Bo_tripTheLow 34 rfl) rfl (px_inL (by decide) px_z3 (by decide)) px_z3 ?_
        rcases px_ite h with ⟨hc17, h⟩ | ⟨hc17, h⟩
        · refine pw_icmp_lt 82 (px_at td_Bo_tripTheLow 35 rfl) (by decide) (fun _ => ?_) (fun hn => absurd hc17 hn)
          refine pw_L [(0, .inr (some (2, k0, 0))), (1, .inl v1)] [1, 2] rfl ?_
          exact Bo_tripTheLow_n82_l h hC hX0
        · refine pw_icmp_lt 82 (px_at td_Bo_tripTheLow 35 rfl) (by decide) (fun hn => absurd hn hc17) (fun _ => ?_)
          refine pw_aload_n 1 (px_at td_Bo_tripTheLow 36 rfl) rfl rfl ?_
          refine pw_getf (v := .inr (some (4, k0, 1))) (px_at td_Bo_tripTheLow 37 rfl) lf_Bo_24 rfl rfl rfl ?_
          refine pw_iload_n 2 (px_at td_Bo_tripTheLow 38 rfl) rfl rfl ?_
          obtain ⟨r14, hk14, h⟩ := px_b1_e h
          refine pw_cV1 (4, k0, 1) [.inl v1] [] (px_at td_Bo_tripTheLow 39 rfl) lV_Bo_265 rfl rfl rfl (Nat.le_of_ble_eq_true rfl) (by decide) (k_Qu_holds hk14) ?_
          rcases px_ite h with ⟨hc16, h⟩ | ⟨hc16, h⟩
          · refine pw_if_ne 82 (px_at td_Bo_tripTheLow 40 rfl) (by decide) (fun hn => absurd hc16 hn) (fun _ => ?_)
            refine pw_aload_n 1 (px_at td_Bo_tripTheLow 41 rfl) rfl rfl ?_
            refine pw_iload_n 2 (px_at td_Bo_tripTheLow 42 rfl) rfl rfl ?_
            obtain ⟨σ15, hk15, h⟩ := px_b1_e h
            refine pw_cV0 (2, k0, 0) [.inl v1] [] (px_at td_Bo_tripTheLow 43 rfl) lV_Bo_268 rfl rfl rfl (Nat.le_of_ble_eq_true rfl) (by decide) (k_Bo_trip hk15) ?_
            refine pw_L [(0, .inr (some (2, k0, 0))), (1, .inl v1)] [1, 2] rfl ?_
            exact Bo_tripTheLow_n82_l h hC hX0
          · refine pw_if_ne 82 (px_at td_Bo_tripTheLow 40 rfl) (by decide) (fun _ => ?_) (fun hn => absurd hn hc16)
            refine pw_L [(0, .inr (some (2, k0, 0))), (1, .inl v1)] [1, 2] rfl ?_
            exact Bo_tripTheLow_n82_l h hC hX0
      · refine pw_if_ne 46 (px_at td_Bo_tripTheLow 20 rfl) (by decide) (fun _ => ?_) (fun hn => absurd hn hc18)
        refine pw_iconst (v := 0) (px_at td_Bo_tripTheLow 26 rfl) (by decide) ?_
        obtain ⟨σ8, hσ8, h⟩ := px_l_e h
        refine pw_puti (px_at td_Bo_tripTheLow 27 rfl) lw_Bo_262 rfl rfl (pw_s hσ8 ?_)
        refine pw_aload_n 0 (px_at td_Bo_tripTheLow 28 rfl) rfl rfl ?_
        refine pw_getf (v := .inl (σ8 (3, k0, v1.toNatClampNeg) 7)) (px_at td_Bo_tripTheLow 29 rfl) lf_Bo_262 rfl rfl rfl ?_
        refine pw_aload_n 1 (px_at td_Bo_tripTheLow 30 rfl) rfl rfl ?_
        refine pw_getf (v := .inr (some (1, (σ8 (2, k0, 0) 4).toNatClampNeg, 0))) (px_at td_Bo_tripTheLow 31 rfl) lf_Bo_31 rfl rfl rfl ?_
        refine pw_getf (v := .inr (some (8, (σ8 (2, k0, 0) 4).toNatClampNeg, 14))) (px_at td_Bo_tripTheLow 32 rfl) lf_Bo_94 rfl rfl rfl ?_
        refine pw_iconst (v := 3) (px_at td_Bo_tripTheLow 33 rfl) (by decide) ?_
        refine pw_ial (px_at td_Bo_tripTheLow 34 rfl) rfl (px_inL (by decide) px_z3 (by decide)) px_z3 ?_
        rcases px_ite h with ⟨hc12, h⟩ | ⟨hc12, h⟩
        · refine pw_icmp_lt 82 (px_at td_Bo_tripTheLow 35 rfl) (by decide) (fun _ => ?_) (fun hn => absurd hc12 hn)
          refine pw_L [(0, .inr (some (2, k0, 0))), (1, .inl v1)] [1, 2] rfl ?_
          exact Bo_tripTheLow_n82_l h hC hX0
        · refine pw_icmp_lt 82 (px_at td_Bo_tripTheLow 35 rfl) (by decide) (fun hn => absurd hn hc12) (fun _ => ?_)
          refine pw_aload_n 1 (px_at td_Bo_tripTheLow 36 rfl) rfl rfl ?_
          refine pw_getf (v := .inr (some (4, k0, 1))) (px_at td_Bo_tripTheLow 37 rfl) lf_Bo_24 rfl rfl rfl ?_
          refine pw_iload_n 2 (px_at td_Bo_tripTheLow 38 rfl) rfl rfl ?_
          obtain ⟨r9, hk9, h⟩ := px_b1_e h
          refine pw_cV1 (4, k0, 1) [.inl v1] [] (px_at td_Bo_tripTheLow 39 rfl) lV_Bo_265 rfl rfl rfl (Nat.le_of_ble_eq_true rfl) (by decide) (k_Qu_holds hk9) ?_
          rcases px_ite h with ⟨hc11, h⟩ | ⟨hc11, h⟩
          · refine pw_if_ne 82 (px_at td_Bo_tripTheLow 40 rfl) (by decide) (fun hn => absurd hc11 hn) (fun _ => ?_)
            refine pw_aload_n 1 (px_at td_Bo_tripTheLow 41 rfl) rfl rfl ?_
            refine pw_iload_n 2 (px_at td_Bo_tripTheLow 42 rfl) rfl rfl ?_
            obtain ⟨σ10, hk10, h⟩ := px_b1_e h
            refine pw_cV0 (2, k0, 0) [.inl v1] [] (px_at td_Bo_tripTheLow 43 rfl) lV_Bo_268 rfl rfl rfl (Nat.le_of_ble_eq_true rfl) (by decide) (k_Bo_trip hk10) ?_
            refine pw_L [(0, .inr (some (2, k0, 0))), (1, .inl v1)] [1, 2] rfl ?_
            exact Bo_tripTheLow_n82_l h hC hX0
          · refine pw_if_ne 82 (px_at td_Bo_tripTheLow 40 rfl) (by decide) (fun _ => ?_) (fun hn => absurd hn hc11)
            refine pw_L [(0, .inr (some (2, k0, 0))), (1, .inl v1)] [1, 2] rfl ?_
            exact Bo_tripTheLow_n82_l h hC hX0
    · refine pw_icmp_ne 46 (px_at td_Bo_tripTheLow 16 rfl) (by decide) (fun _ => ?_) (fun hn => absurd hn hc19)
      refine pw_iconst (v := 0) (px_at td_Bo_tripTheLow 26 rfl) (by decide) ?_
      obtain ⟨σ2, hσ2, h⟩ := px_l_e h
      refine pw_puti (px_at td_Bo_tripTheLow 27 rfl) lw_Bo_262 rfl rfl (pw_s hσ2 ?_)
      refine pw_aload_n 0 (px_at td_Bo_tripTheLow 28 rfl) rfl rfl ?_
      refine pw_getf (v := .inl (σ2 (3, k0, v1.toNatClampNeg) 7)) (px_at td_Bo_tripTheLow 29 rfl) lf_Bo_262 rfl rfl rfl ?_
      refine pw_aload_n 1 (px_at td_Bo_tripTheLow 30 rfl) rfl rfl ?_
      refine pw_getf (v := .inr (some (1, (σ2 (2, k0, 0) 4).toNatClampNeg, 0))) (px_at td_Bo_tripTheLow 31 rfl) lf_Bo_31 rfl rfl rfl ?_
      refine pw_getf (v := .inr (some (8, (σ2 (2, k0, 0) 4).toNatClampNeg, 14))) (px_at td_Bo_tripTheLow 32 rfl) lf_Bo_94 rfl rfl rfl ?_
      refine pw_iconst (v := 3) (px_at td_Bo_tripTheLow 33 rfl) (by decide) ?_
      refine pw_ial (px_at td_Bo_tripTheLow 34 rfl) rfl (px_inL (by decide) px_z3 (by decide)) px_z3 ?_
      rcases px_ite h with ⟨hc6, h⟩ | ⟨hc6, h⟩
      · refine pw_icmp_lt 82 (px_at td_Bo_tripTheLow 35 rfl) (by decide) (fun _ => ?_) (fun hn => absurd hc6 hn)
        refine pw_L [(0, .inr (some (2, k0, 0))), (1, .inl v1)] [1, 2] rfl ?_
        exact Bo_tripTheLow_n82_l h hC hX0
      · refine pw_icmp_lt 82 (px_at td_Bo_tripTheLow 35 rfl) (by decide) (fun hn => absurd hn hc6) (fun _ => ?_)
        refine pw_aload_n 1 (px_at td_Bo_tripTheLow 36 rfl) rfl rfl ?_
        refine pw_getf (v := .inr (some (4, k0, 1))) (px_at td_Bo_tripTheLow 37 rfl) lf_Bo_24 rfl rfl rfl ?_
        refine pw_iload_n 2 (px_at td_Bo_tripTheLow 38 rfl) rfl rfl ?_
        obtain ⟨r3, hk3, h⟩ := px_b1_e h
        refine pw_cV1 (4, k0, 1) [.inl v1] [] (px_at td_Bo_tripTheLow 39 rfl) lV_Bo_265 rfl rfl rfl (Nat.le_of_ble_eq_true rfl) (by decide) (k_Qu_holds hk3) ?_
        rcases px_ite h with ⟨hc5, h⟩ | ⟨hc5, h⟩
        · refine pw_if_ne 82 (px_at td_Bo_tripTheLow 40 rfl) (by decide) (fun hn => absurd hc5 hn) (fun _ => ?_)
          refine pw_aload_n 1 (px_at td_Bo_tripTheLow 41 rfl) rfl rfl ?_
          refine pw_iload_n 2 (px_at td_Bo_tripTheLow 42 rfl) rfl rfl ?_
          obtain ⟨σ4, hk4, h⟩ := px_b1_e h
          refine pw_cV0 (2, k0, 0) [.inl v1] [] (px_at td_Bo_tripTheLow 43 rfl) lV_Bo_268 rfl rfl rfl (Nat.le_of_ble_eq_true rfl) (by decide) (k_Bo_trip hk4) ?_
          refine pw_L [(0, .inr (some (2, k0, 0))), (1, .inl v1)] [1, 2] rfl ?_
          exact Bo_tripTheLow_n82_l h hC hX0
        · refine pw_if_ne 82 (px_at td_Bo_tripTheLow 40 rfl) (by decide) (fun _ => ?_) (fun hn => absurd hn hc5)
          refine pw_L [(0, .inr (some (2, k0, 0))), (1, .inl v1)] [1, 2] rfl ?_
          exact Bo_tripTheLow_n82_l h hC hX0
def Bo_tripTheLow_L2 (k0 : Nat) : (Int32 × pxS) → Option ((Int32 × pxS) ⊕ (pxS)) := fun s => Bo_tripTheLow_n2 s.2 k0 s.1
set_option maxRecDepth 100000 in
theorem Bo_tripTheLow_L2_l {l : Launch} {ids : List pxI} {Rt : Option pxV → List pxI → pxG → pxS → Prop} {k0 : Nat} {n : Nat} {s : Int32 × pxS} {e : pxS} (h : px_it (Bo_tripTheLow_L2 k0) n s = some e) (hX0 : pw l (px_R 5) y_Bo_tripTheLow c_Bo_tripTheLow 3 none 88 [] [] ids cG e 0 0 Rt) : pw l (px_R 5) y_Bo_tripTheLow c_Bo_tripTheLow 3 none 2 [(0, .inr (some (2, k0, 0))), (1, .inl s.1)] [] ids cG s.2 0 0 Rt := by
  refine px_it_rule (f := Bo_tripTheLow_L2 k0) (C := fun s => pw l (px_R 5) y_Bo_tripTheLow c_Bo_tripTheLow 3 none 2 [(0, .inr (some (2, k0, 0))), (1, .inl s.1)] [] ids cG s.2 0 0 Rt) (X := fun e => (pw l (px_R 5) y_Bo_tripTheLow c_Bo_tripTheLow 3 none 88 [] [] ids cG e 0 0 Rt)) ?_ ?_ n s e h hX0
  · intro s s1 hf hC
    exact Bo_tripTheLow_n2_l hf (fun s2 hs => by cases hs; exact hC) (fun e he => by cases he)
  · intro s e hf hX
    exact Bo_tripTheLow_n2_l hf (fun s2 hs => by cases hs) (fun e1 he => by cases he; exact hX)
def F_Bo_tripTheLow (σ : pxS) (k0 : Nat) : Option (pxS) :=
  px_b1 (px_it (Bo_tripTheLow_L2 k0) px_N (0, σ)) fun e21 =>
  some e21
set_option maxRecDepth 100000 in
theorem e_Bo_tripTheLow {l : Launch} {ids : List pxI} {Rt : Option pxV → List pxI → pxG → pxS → Prop} {σ : pxS} {k0 : Nat} {res : pxS} (h : F_Bo_tripTheLow σ k0 = some res) (hR : Rt none ids cG res) : pw l (px_R 5) y_Bo_tripTheLow c_Bo_tripTheLow 3 none 0 [(0, .inr (some (2, k0, 0)))] [] ids cG σ 0 0 Rt := by
  unfold F_Bo_tripTheLow at h
  refine pw_iconst (v := 0) (px_at td_Bo_tripTheLow 0 rfl) (by decide) ?_
  refine pw_istore_n (L' := [(1, .inl 0), (0, .inr (some (2, k0, 0)))]) (px_at td_Bo_tripTheLow 1 rfl) rfl (by decide) rfl ?_
  obtain ⟨e21, he21, h⟩ := px_b1_e h
  refine pw_L [(0, .inr (some (2, k0, 0))), (1, .inl 0)] [1, 0] rfl ?_
  refine Bo_tripTheLow_L2_l he21 ?_
  obtain rfl := Option.some.inj h
  exact pw_vret (px_at td_Bo_tripTheLow 46 rfl) rfl (Nat.le_refl 0) (Nat.le_refl 0) hR
theorem k_Bo_tripTheLow {l : Launch} {ids : List pxI} {σ : pxS} {k0 : Nat} {res : pxS} (h : F_Bo_tripTheLow σ k0 = some res) : pm l y_Bo_tripTheLow c_Bo_tripTheLow 3 none (px_R 5) [.inr (some (2, k0, 0))] ids cG σ (px_r none ids cG res) :=
  pm_ofF (by decide +kernel) (Nat.le_of_ble_eq_true rfl) (e_Bo_tripTheLow h ⟨rfl, rfl, rfl, rfl⟩)
/-! Bo_letFirstFall -/
def F_Bo_letFirstFall (σ : pxS) (k0 : Nat) : Option (pxS) :=
  px_b1 (F_Qu_at σ k0 1 0) fun r1 =>
  (if r1 < 0 then some σ else px_b1 (F_Qu_drop σ k0 1 r1) fun σ2 =>
  px_gd r1 12 (px_l (px_up σ2 (3, k0, r1.toNatClampNeg) 2 4) fun σ4 =>
  px_b1 (F_Bo_write σ4 k0 r1 3) fun σ5 =>
  some σ5))
set_option maxRecDepth 100000 in
theorem e_Bo_letFirstFall {l : Launch} {ids : List pxI} {Rt : Option pxV → List pxI → pxG → pxS → Prop} {σ : pxS} {k0 : Nat} {res : pxS} (h : F_Bo_letFirstFall σ k0 = some res) (hR : Rt none ids cG res) : pw l (px_R 3) y_Bo_letFirstFall c_Bo_letFirstFall 2 none 0 [(0, .inr (some (2, k0, 0)))] [] ids cG σ 0 0 Rt := by
  unfold F_Bo_letFirstFall at h
  refine pw_aload_n 0 (px_at td_Bo_letFirstFall 0 rfl) rfl rfl ?_
  refine pw_getf (v := .inr (some (4, k0, 1))) (px_at td_Bo_letFirstFall 1 rfl) lf_Bo_24 rfl rfl rfl ?_
  refine pw_iconst (v := 0) (px_at td_Bo_letFirstFall 2 rfl) (by decide) ?_
  obtain ⟨r1, hk1, h⟩ := px_b1_e h
  refine pw_cV1 (4, k0, 1) [.inl 0] [] (px_at td_Bo_letFirstFall 3 rfl) lV_Bo_235 rfl rfl rfl (Nat.le_of_ble_eq_true rfl) (by decide) (k_Qu_at hk1) ?_
  refine pw_istore_n (L' := [(1, .inl r1), (0, .inr (some (2, k0, 0)))]) (px_at td_Bo_letFirstFall 4 rfl) rfl (by decide) rfl ?_
  refine pw_iload_n 0 (px_at td_Bo_letFirstFall 5 rfl) rfl rfl ?_
  rcases px_ite h with ⟨hc6, h⟩ | ⟨hc6, h⟩
  · refine pw_if_lt 37 (px_at td_Bo_letFirstFall 6 rfl) (by decide) (fun _ => ?_) (fun hn => absurd hc6 hn)
    obtain rfl := Option.some.inj h
    exact pw_vret (px_at td_Bo_letFirstFall 21 rfl) rfl (Nat.le_refl 0) (Nat.le_refl 0) hR
  · refine pw_if_lt 37 (px_at td_Bo_letFirstFall 6 rfl) (by decide) (fun hn => absurd hn hc6) (fun _ => ?_)
    refine pw_aload_n 1 (px_at td_Bo_letFirstFall 7 rfl) rfl rfl ?_
    refine pw_getf (v := .inr (some (4, k0, 1))) (px_at td_Bo_letFirstFall 8 rfl) lf_Bo_24 rfl rfl rfl ?_
    refine pw_iload_n 0 (px_at td_Bo_letFirstFall 9 rfl) rfl rfl ?_
    obtain ⟨σ2, hk2, h⟩ := px_b1_e h
    refine pw_cV0 (4, k0, 1) [.inl r1] [] (px_at td_Bo_letFirstFall 10 rfl) lV_Bo_136 rfl rfl rfl (Nat.le_of_ble_eq_true rfl) (by decide) (k_Qu_drop hk2) ?_
    refine pw_aload_n 1 (px_at td_Bo_letFirstFall 11 rfl) rfl rfl ?_
    refine pw_getf (v := .inr (some (9, k0, 0))) (px_at td_Bo_letFirstFall 12 rfl) lf_Bo_11 rfl rfl rfl ?_
    refine pw_iload_n 0 (px_at td_Bo_letFirstFall 13 rfl) rfl rfl ?_
    obtain ⟨hi3, h⟩ := px_gd_e h
    refine pw_aald (r := (3, k0, r1.toNatClampNeg)) (px_at td_Bo_letFirstFall 14 rfl) rfl (fun _ => rfl) hi3 rfl ?_
    refine pw_iconst (v := 4) (px_at td_Bo_letFirstFall 15 rfl) (by decide) ?_
    obtain ⟨σ4, hσ4, h⟩ := px_l_e h
    refine pw_puti (px_at td_Bo_letFirstFall 16 rfl) lw_Bo_85 rfl rfl (pw_s hσ4 ?_)
    refine pw_aload_n 1 (px_at td_Bo_letFirstFall 17 rfl) rfl rfl ?_
    refine pw_iload_n 0 (px_at td_Bo_letFirstFall 18 rfl) rfl rfl ?_
    refine pw_iconst (v := 3) (px_at td_Bo_letFirstFall 19 rfl) (by decide) ?_
    obtain ⟨σ5, hk5, h⟩ := px_b1_e h
    refine pw_cV0 (2, k0, 0) [.inl r1, .inl 3] [] (px_at td_Bo_letFirstFall 20 rfl) lV_Bo_161 rfl rfl rfl (Nat.le_of_ble_eq_true rfl) (by decide) (k_Bo_write hk5) ?_
    obtain rfl := Option.some.inj h
    exact pw_vret (px_at td_Bo_letFirstFall 21 rfl) rfl (Nat.le_refl 0) (Nat.le_refl 0) hR
theorem k_Bo_letFirstFall {l : Launch} {ids : List pxI} {σ : pxS} {k0 : Nat} {res : pxS} (h : F_Bo_letFirstFall σ k0 = some res) : pm l y_Bo_letFirstFall c_Bo_letFirstFall 2 none (px_R 3) [.inr (some (2, k0, 0))] ids cG σ (px_r none ids cG res) :=
  pm_ofF (by decide +kernel) (Nat.le_of_ble_eq_true rfl) (e_Bo_letFirstFall h ⟨rfl, rfl, rfl, rfl⟩)
/-! Bo_tripTheLatest -/
def F_Bo_tripTheLatest (σ : pxS) (k0 : Nat) : Option (pxS) :=
  px_b1 (F_Pl_allRails σ (σ (2, k0, 0) 4)) fun r1 =>
  px_b1 (F_Bo_latestToGo σ k0 r1) fun r2 =>
  (if r2 < 0 then some σ else px_b1 (F_Bo_trip σ k0 r2) fun σ3 =>
  some σ3)
set_option maxRecDepth 100000 in
theorem e_Bo_tripTheLatest {l : Launch} {ids : List pxI} {Rt : Option pxV → List pxI → pxG → pxS → Prop} {σ : pxS} {k0 : Nat} {res : pxS} (h : F_Bo_tripTheLatest σ k0 = some res) (hR : Rt none ids cG res) : pw l (px_R 5) y_Bo_tripTheLatest c_Bo_tripTheLatest 2 none 0 [(0, .inr (some (2, k0, 0)))] [] ids cG σ 0 0 Rt := by
  unfold F_Bo_tripTheLatest at h
  refine pw_aload_n 0 (px_at td_Bo_tripTheLatest 0 rfl) rfl rfl ?_
  refine pw_aload_n 0 (px_at td_Bo_tripTheLatest 1 rfl) rfl rfl ?_
  refine pw_getf (v := .inr (some (1, (σ (2, k0, 0) 4).toNatClampNeg, 0))) (px_at td_Bo_tripTheLatest 2 rfl) lf_Bo_31 rfl rfl rfl ?_
  obtain ⟨r1, hk1, h⟩ := px_b1_e h
  refine pw_cV1 (1, (σ (2, k0, 0) 4).toNatClampNeg, 0) [] [.inr (some (2, k0, 0))] (px_at td_Bo_tripTheLatest 3 rfl) lV_Bo_228 rfl rfl rfl (Nat.le_of_ble_eq_true rfl) (by decide) (k_Pl_allRails hk1) ?_
  obtain ⟨r2, hk2, h⟩ := px_b1_e h
  refine pw_cV1 (2, k0, 0) [.inl r1] [] (px_at td_Bo_tripTheLatest 4 rfl) lV_Bo_151 rfl rfl rfl (Nat.le_of_ble_eq_true rfl) (by decide) (k_Bo_latestToGo hk2) ?_
  refine pw_istore_n (L' := [(1, .inl r2), (0, .inr (some (2, k0, 0)))]) (px_at td_Bo_tripTheLatest 5 rfl) rfl (by decide) rfl ?_
  refine pw_iload_n 0 (px_at td_Bo_tripTheLatest 6 rfl) rfl rfl ?_
  rcases px_ite h with ⟨hc4, h⟩ | ⟨hc4, h⟩
  · refine pw_if_lt 21 (px_at td_Bo_tripTheLatest 7 rfl) (by decide) (fun _ => ?_) (fun hn => absurd hc4 hn)
    obtain rfl := Option.some.inj h
    exact pw_vret (px_at td_Bo_tripTheLatest 11 rfl) rfl (Nat.le_refl 0) (Nat.le_refl 0) hR
  · refine pw_if_lt 21 (px_at td_Bo_tripTheLatest 7 rfl) (by decide) (fun hn => absurd hn hc4) (fun _ => ?_)
    refine pw_aload_n 1 (px_at td_Bo_tripTheLatest 8 rfl) rfl rfl ?_
    refine pw_iload_n 0 (px_at td_Bo_tripTheLatest 9 rfl) rfl rfl ?_
    obtain ⟨σ3, hk3, h⟩ := px_b1_e h
    refine pw_cV0 (2, k0, 0) [.inl r2] [] (px_at td_Bo_tripTheLatest 10 rfl) lV_Bo_268 rfl rfl rfl (Nat.le_of_ble_eq_true rfl) (by decide) (k_Bo_trip hk3) ?_
    obtain rfl := Option.some.inj h
    exact pw_vret (px_at td_Bo_tripTheLatest 11 rfl) rfl (Nat.le_refl 0) (Nat.le_refl 0) hR
theorem k_Bo_tripTheLatest {l : Launch} {ids : List pxI} {σ : pxS} {k0 : Nat} {res : pxS} (h : F_Bo_tripTheLatest σ k0 = some res) : pm l y_Bo_tripTheLatest c_Bo_tripTheLatest 2 none (px_R 5) [.inr (some (2, k0, 0))] ids cG σ (px_r none ids cG res) :=
  pm_ofF (by decide +kernel) (Nat.le_of_ble_eq_true rfl) (e_Bo_tripTheLatest h ⟨rfl, rfl, rfl, rfl⟩)
/-! Bo_pass -/
def Bo_pass_n55 (σ : pxS) (k0 : Nat) : Option (pxS) :=
  px_b1 (F_Bo_letFirstFall σ k0) fun σ8 =>
  some σ8
set_option maxRecDepth 100000 in
theorem Bo_pass_n55_l {l : Launch} {ids : List pxI} {Rt : Option pxV → List pxI → pxG → pxS → Prop} {σ : pxS} {k0 : Nat} {res : pxS} (h : Bo_pass_n55 σ k0 = some res) (hR : Rt none ids cG res) : pw l (px_R 6) y_Bo_pass c_Bo_pass 1 none 55 [(0, .inr (some (2, k0, 0)))] [] ids cG σ 0 0 Rt := by
  unfold Bo_pass_n55 at h
  refine pw_aload_n 0 (px_at td_Bo_pass 28 rfl) rfl rfl ?_
  obtain ⟨σ8, hk8, h⟩ := px_b1_e h
  refine pw_cV0 (2, k0, 0) [] [] (px_at td_Bo_pass 29 rfl) lV_Bo_188 rfl rfl rfl (Nat.le_of_ble_eq_true rfl) (by decide) (k_Bo_letFirstFall hk8) ?_
  obtain rfl := Option.some.inj h
  exact pw_vret (px_at td_Bo_pass 30 rfl) rfl (Nat.le_refl 0) (Nat.le_refl 0) hR
def F_Bo_pass (σ : pxS) (k0 : Nat) : Option (pxS) :=
  px_l (px_up σ (2, k0, 0) 5 ((σ (2, k0, 0) 5) + 1)) fun σ1 =>
  px_b1 (F_Bo_comeAgain σ1 k0) fun σ2 =>
  px_b1 (F_Bo_runSequence σ2 k0) fun σ3 =>
  px_b1 (F_Bo_beginToRise σ3 k0) fun σ4 =>
  px_b1 (F_Bo_moveVolts σ4 k0) fun σ5 =>
  px_b1 (F_Bo_measureDraws σ5 k0) fun σ6 =>
  px_b1 (F_Bo_tripTheLow σ6 k0) fun σ7 =>
  (if (σ7 (2, k0, 0) 6) ≤ (σ7 (8, (σ7 (2, k0, 0) 4).toNatClampNeg, 14) 6) then Bo_pass_n55 σ7 k0 else px_b1 (F_Bo_tripTheLatest σ7 k0) fun σ9 =>
  Bo_pass_n55 σ9 k0)
set_option maxRecDepth 100000 in
theorem e_Bo_pass {l : Launch} {ids : List pxI} {Rt : Option pxV → List pxI → pxG → pxS → Prop} {σ : pxS} {k0 : Nat} {res : pxS} (h : F_Bo_pass σ k0 = some res) (hR : Rt none ids cG res) : pw l (px_R 6) y_Bo_pass c_Bo_pass 1 none 0 [(0, .inr (some (2, k0, 0)))] [] ids cG σ 0 0 Rt := by
  unfold F_Bo_pass at h
  refine pw_aload_n 0 (px_at td_Bo_pass 0 rfl) rfl rfl ?_
  refine pw_dup (px_at td_Bo_pass 1 rfl) ?_
  refine pw_getf (v := .inl (σ (2, k0, 0) 5)) (px_at td_Bo_pass 2 rfl) lf_Bo_51 rfl rfl rfl ?_
  refine pw_iconst (v := 1) (px_at td_Bo_pass 3 rfl) (by decide) ?_
  refine pw_iadd (px_at td_Bo_pass 4 rfl) ?_
  obtain ⟨σ1, hσ1, h⟩ := px_l_e h
  refine pw_puti (px_at td_Bo_pass 5 rfl) lw_Bo_51 rfl rfl (pw_s hσ1 ?_)
  refine pw_aload_n 0 (px_at td_Bo_pass 6 rfl) rfl rfl ?_
  obtain ⟨σ2, hk2, h⟩ := px_b1_e h
  refine pw_cV0 (2, k0, 0) [] [] (px_at td_Bo_pass 7 rfl) lV_Bo_167 rfl rfl rfl (Nat.le_of_ble_eq_true rfl) (by decide) (k_Bo_comeAgain hk2) ?_
  refine pw_aload_n 0 (px_at td_Bo_pass 8 rfl) rfl rfl ?_
  obtain ⟨σ3, hk3, h⟩ := px_b1_e h
  refine pw_cV0 (2, k0, 0) [] [] (px_at td_Bo_pass 9 rfl) lV_Bo_170 rfl rfl rfl (Nat.le_of_ble_eq_true rfl) (by decide) (k_Bo_runSequence hk3) ?_
  refine pw_aload_n 0 (px_at td_Bo_pass 10 rfl) rfl rfl ?_
  obtain ⟨σ4, hk4, h⟩ := px_b1_e h
  refine pw_cV0 (2, k0, 0) [] [] (px_at td_Bo_pass 11 rfl) lV_Bo_173 rfl rfl rfl (Nat.le_of_ble_eq_true rfl) (by decide) (k_Bo_beginToRise hk4) ?_
  refine pw_aload_n 0 (px_at td_Bo_pass 12 rfl) rfl rfl ?_
  obtain ⟨σ5, hk5, h⟩ := px_b1_e h
  refine pw_cV0 (2, k0, 0) [] [] (px_at td_Bo_pass 13 rfl) lV_Bo_176 rfl rfl rfl (Nat.le_of_ble_eq_true rfl) (by decide) (k_Bo_moveVolts hk5) ?_
  refine pw_aload_n 0 (px_at td_Bo_pass 14 rfl) rfl rfl ?_
  obtain ⟨σ6, hk6, h⟩ := px_b1_e h
  refine pw_cV0 (2, k0, 0) [] [] (px_at td_Bo_pass 15 rfl) lV_Bo_179 rfl rfl rfl (Nat.le_of_ble_eq_true rfl) (by decide) (k_Bo_measureDraws hk6) ?_
  refine pw_aload_n 0 (px_at td_Bo_pass 16 rfl) rfl rfl ?_
  obtain ⟨σ7, hk7, h⟩ := px_b1_e h
  refine pw_cV0 (2, k0, 0) [] [] (px_at td_Bo_pass 17 rfl) lV_Bo_182 rfl rfl rfl (Nat.le_of_ble_eq_true rfl) (by decide) (k_Bo_tripTheLow hk7) ?_
  refine pw_aload_n 0 (px_at td_Bo_pass 18 rfl) rfl rfl ?_
  refine pw_getf (v := .inl (σ7 (2, k0, 0) 6)) (px_at td_Bo_pass 19 rfl) lf_Bo_55 rfl rfl rfl ?_
  refine pw_aload_n 0 (px_at td_Bo_pass 20 rfl) rfl rfl ?_
  refine pw_getf (v := .inr (some (1, (σ7 (2, k0, 0) 4).toNatClampNeg, 0))) (px_at td_Bo_pass 21 rfl) lf_Bo_31 rfl rfl rfl ?_
  refine pw_getf (v := .inr (some (8, (σ7 (2, k0, 0) 4).toNatClampNeg, 14))) (px_at td_Bo_pass 22 rfl) lf_Bo_94 rfl rfl rfl ?_
  refine pw_bipush (v := 6) (px_at td_Bo_pass 23 rfl) (by decide) ?_
  refine pw_ial (px_at td_Bo_pass 24 rfl) rfl (px_inL (by decide) px_z6 (by decide)) px_z6 ?_
  rcases px_ite h with ⟨hc10, h⟩ | ⟨hc10, h⟩
  · refine pw_icmp_le 55 (px_at td_Bo_pass 25 rfl) (by decide) (fun _ => ?_) (fun hn => absurd hc10 hn)
    exact Bo_pass_n55_l h hR
  · refine pw_icmp_le 55 (px_at td_Bo_pass 25 rfl) (by decide) (fun hn => absurd hn hc10) (fun _ => ?_)
    refine pw_aload_n 0 (px_at td_Bo_pass 26 rfl) rfl rfl ?_
    obtain ⟨σ9, hk9, h⟩ := px_b1_e h
    refine pw_cV0 (2, k0, 0) [] [] (px_at td_Bo_pass 27 rfl) lV_Bo_185 rfl rfl rfl (Nat.le_of_ble_eq_true rfl) (by decide) (k_Bo_tripTheLatest hk9) ?_
    exact Bo_pass_n55_l h hR
theorem k_Bo_pass {l : Launch} {ids : List pxI} {σ : pxS} {k0 : Nat} {res : pxS} (h : F_Bo_pass σ k0 = some res) : pm l y_Bo_pass c_Bo_pass 1 none (px_R 6) [.inr (some (2, k0, 0))] ids cG σ (px_r none ids cG res) :=
  pm_ofF (by decide +kernel) (Nat.le_of_ble_eq_true rfl) (e_Bo_pass h ⟨rfl, rfl, rfl, rfl⟩)
/-! Bo_following -/
def F_Bo_following (σ : pxS) (v0 : Int32) : Option (Int32) :=
  some ((((v0 * 1103515245) + 12345) &&& 2147483647))
set_option maxRecDepth 100000 in
theorem e_Bo_following {l : Launch} {ids : List pxI} {Rt : Option pxV → List pxI → pxG → pxS → Prop} {σ : pxS} {v0 : Int32} {res : Int32} (h : F_Bo_following σ v0 = some res) (hR : Rt (some (.inl res)) ids cG σ) : pw l (px_R 1) y_Bo_following c_Bo_following 1 (some .int) 0 [(0, .inl v0)] [] ids cG σ 0 0 Rt := by
  unfold F_Bo_following at h
  refine pw_iload_n 0 (px_at td_Bo_following 0 rfl) rfl rfl ?_
  refine pw_ldc (v := 1103515245) (px_at td_Bo_following 1 rfl) lc_Bo_206 ?_
  refine pw_imul (px_at td_Bo_following 2 rfl) ?_
  refine pw_sipush (v := 12345) (px_at td_Bo_following 3 rfl) (by decide) ?_
  refine pw_iadd (px_at td_Bo_following 4 rfl) ?_
  refine pw_ldc (v := 2147483647) (px_at td_Bo_following 5 rfl) lc_Bo_207 ?_
  refine pw_iand (px_at td_Bo_following 6 rfl) ?_
  obtain rfl := Option.some.inj h
  exact pw_iret (px_at td_Bo_following 7 rfl) rfl (Nat.le_refl 0) (Nat.le_refl 0) hR
theorem k_Bo_following {l : Launch} {ids : List pxI} {σ : pxS} {v0 : Int32} {res : Int32} (h : F_Bo_following σ v0 = some res) : pm l y_Bo_following c_Bo_following 1 (some .int) (px_R 1) [.inl v0] ids cG σ (px_r (some (.inl res)) ids cG σ) :=
  pm_ofF (by decide +kernel) (Nat.le_of_ble_eq_true rfl) (e_Bo_following h ⟨rfl, rfl, rfl, rfl⟩)
/-! Bo_drawn -/
def F_Bo_drawn (σ : pxS) (v0 : Int32) (v1 : Int32) : Option (Int32) :=
  (if v1 ≤ 0 then some (0) else px_gz v1 (some (((v0 >>> (16 &&& 31)) - (v0 >>> (16 &&& 31)) / v1 * v1))))
set_option maxRecDepth 100000 in
theorem e_Bo_drawn {l : Launch} {ids : List pxI} {Rt : Option pxV → List pxI → pxG → pxS → Prop} {σ : pxS} {v0 : Int32} {v1 : Int32} {res : Int32} (h : F_Bo_drawn σ v0 v1 = some res) (hR : Rt (some (.inl res)) ids cG σ) : pw l (px_R 1) y_Bo_drawn c_Bo_drawn 2 (some .int) 0 [(0, .inl v0), (1, .inl v1)] [] ids cG σ 0 0 Rt := by
  unfold F_Bo_drawn at h
  refine pw_iload_n 1 (px_at td_Bo_drawn 0 rfl) rfl rfl ?_
  rcases px_ite h with ⟨hc2, h⟩ | ⟨hc2, h⟩
  · refine pw_if_le 13 (px_at td_Bo_drawn 1 rfl) (by decide) (fun _ => ?_) (fun hn => absurd hc2 hn)
    refine pw_iconst (v := 0) (px_at td_Bo_drawn 8 rfl) (by decide) ?_
    obtain rfl := Option.some.inj h
    exact pw_iret (px_at td_Bo_drawn 9 rfl) rfl (Nat.le_refl 0) (Nat.le_refl 0) hR
  · refine pw_if_le 13 (px_at td_Bo_drawn 1 rfl) (by decide) (fun hn => absurd hn hc2) (fun _ => ?_)
    refine pw_iload_n 0 (px_at td_Bo_drawn 2 rfl) rfl rfl ?_
    refine pw_bipush (v := 16) (px_at td_Bo_drawn 3 rfl) (by decide) ?_
    refine pw_ishr (px_at td_Bo_drawn 4 rfl) ?_
    refine pw_iload_n 1 (px_at td_Bo_drawn 5 rfl) rfl rfl ?_
    obtain ⟨hz1, h⟩ := px_gz_e h
    refine pw_irem (px_at td_Bo_drawn 6 rfl) hz1 ?_
    refine pw_goto 14 (px_at td_Bo_drawn 7 rfl) (by decide) ?_
    obtain rfl := Option.some.inj h
    exact pw_iret (px_at td_Bo_drawn 9 rfl) rfl (Nat.le_refl 0) (Nat.le_refl 0) hR
theorem k_Bo_drawn {l : Launch} {ids : List pxI} {σ : pxS} {v0 : Int32} {v1 : Int32} {res : Int32} (h : F_Bo_drawn σ v0 v1 = some res) : pm l y_Bo_drawn c_Bo_drawn 2 (some .int) (px_R 1) [.inl v0, .inl v1] ids cG σ (px_r (some (.inl res)) ids cG σ) :=
  pm_ofF (by decide +kernel) (Nat.le_of_ble_eq_true rfl) (e_Bo_drawn h ⟨rfl, rfl, rfl, rfl⟩)
/-! Bo_passByChance -/
def Bo_passByChance_n70 (σ : pxS) (k0 : Nat) (v2 : Int32) (v3 : Int32) (v4 : Int32) (v5 : Int32) (v6 : Int32) (v7 : Int32) : Option ((Int32 × Int32 × Int32 × pxS) ⊕ (Int32 × pxS)) :=
  px_b1 (F_Bo_pass σ k0) fun σ1 =>
  some (.inl (v4, (if v5 < (σ1 (2, k0, 0) 6) then (σ1 (2, k0, 0) 6) else v5), (v7 + 1), σ1))
set_option maxRecDepth 100000 in
theorem Bo_passByChance_n70_l {l : Launch} {ids : List pxI} {Rt : Option pxV → List pxI → pxG → pxS → Prop} {σ : pxS} {k0 : Nat} {v2 : Int32} {v3 : Int32} {v4 : Int32} {v5 : Int32} {v6 : Int32} {v7 : Int32} {o : (Int32 × Int32 × Int32 × pxS) ⊕ (Int32 × pxS)} (h : Bo_passByChance_n70 σ k0 v2 v3 v4 v5 v6 v7 = some o) (hC : ∀ s, o = .inl s → pw l (px_R 7) y_Bo_passByChance c_Bo_passByChance 9 (some .int) 18 [(0, .inr (some (2, k0, 0))), (2, .inl v2), (3, .inl v3), (4, .inl s.1), (5, .inl s.2.1), (6, .inl v6), (7, .inl s.2.2.1)] [] ids cG s.2.2.2 0 0 Rt) (hX0 : ∀ e, o = .inr e → pw l (px_R 7) y_Bo_passByChance c_Bo_passByChance 9 (some .int) 91 [(5, .inl e.1)] [] ids cG e.2 0 0 Rt) : pw l (px_R 7) y_Bo_passByChance c_Bo_passByChance 9 (some .int) 70 [(0, .inr (some (2, k0, 0))), (2, .inl v2), (3, .inl v3), (4, .inl v4), (5, .inl v5), (6, .inl v6), (7, .inl v7)] [] ids cG σ 0 0 Rt := by
  unfold Bo_passByChance_n70 at h
  refine pw_aload_n 0 (px_at td_Bo_passByChance 35 rfl) rfl rfl ?_
  obtain ⟨σ1, hk1, h⟩ := px_b1_e h
  refine pw_cV0 (2, k0, 0) [] [] (px_at td_Bo_passByChance 36 rfl) lV_Bo_200 rfl rfl rfl (Nat.le_of_ble_eq_true rfl) (by decide) (k_Bo_pass hk1) ?_
  refine pw_iload 4 (px_at td_Bo_passByChance 37 rfl) rfl ?_
  refine pw_aload_n 0 (px_at td_Bo_passByChance 38 rfl) rfl rfl ?_
  refine pw_getf (v := .inl (σ1 (2, k0, 0) 6)) (px_at td_Bo_passByChance 39 rfl) lf_Bo_55 rfl rfl rfl ?_
  refine pw_mmax (px_at td_Bo_passByChance 40 rfl) lm_Bo_203 ws_Math_max wi_java_lang_Math wc_Math_max (by decide) (Nat.le_of_ble_eq_true rfl) (Nat.le_refl 0) (Nat.le_refl 0) ?_
  refine pw_istore (L' := [(5, .inl (if v5 < (σ1 (2, k0, 0) 6) then (σ1 (2, k0, 0) 6) else v5)), (0, .inr (some (2, k0, 0))), (2, .inl v2), (3, .inl v3), (4, .inl v4), (6, .inl v6), (7, .inl v7)]) (px_at td_Bo_passByChance 41 rfl) (by decide) rfl ?_
  refine pw_iinc (q := 6) (v := (v7 + 1)) (L' := [(7, .inl (v7 + 1)), (5, .inl (if v5 < (σ1 (2, k0, 0) 6) then (σ1 (2, k0, 0) 6) else v5)), (0, .inr (some (2, k0, 0))), (2, .inl v2), (3, .inl v3), (4, .inl v4), (6, .inl v6)]) (px_at td_Bo_passByChance 42 rfl) rfl rfl (by decide) rfl ?_
  refine pw_goto 18 (px_at td_Bo_passByChance 43 rfl) (by decide) ?_
  refine pw_L [(0, .inr (some (2, k0, 0))), (2, .inl v2), (3, .inl v3), (4, .inl v4), (5, .inl (if v5 < (σ1 (2, k0, 0) 6) then (σ1 (2, k0, 0) 6) else v5)), (6, .inl v6), (7, .inl (v7 + 1))] [2, 3, 4, 5, 1, 6, 0] rfl ?_
  exact hC (v4, (if v5 < (σ1 (2, k0, 0) 6) then (σ1 (2, k0, 0) 6) else v5), (v7 + 1), σ1) (Option.some.inj h).symm
def Bo_passByChance_n18 (σ : pxS) (k0 : Nat) (v2 : Int32) (v3 : Int32) (v4 : Int32) (v5 : Int32) (v6 : Int32) (v7 : Int32) : Option ((Int32 × Int32 × Int32 × pxS) ⊕ (Int32 × pxS)) :=
  (if v2 ≤ v7 then some (.inr (v5, σ)) else (if v6 ≤ 0 then Bo_passByChance_n70 σ k0 v2 v3 v4 v5 v6 v7 else px_b1 (F_Bo_following σ v4) fun r2 =>
  px_b1 (F_Bo_drawn σ r2 v6) fun r3 =>
  px_b1 (F_Bo_following σ r2) fun r4 =>
  px_gd r3 12 (px_b1 (F_Bo_drawn σ r4 (v3 + 1)) fun r6 =>
  px_l (px_up σ (3, k0, r3.toNatClampNeg) 0 r6) fun σ7 =>
  Bo_passByChance_n70 σ7 k0 v2 v3 r4 v5 v6 v7)))
set_option maxRecDepth 100000 in
theorem Bo_passByChance_n18_l {l : Launch} {ids : List pxI} {Rt : Option pxV → List pxI → pxG → pxS → Prop} {σ : pxS} {k0 : Nat} {v2 : Int32} {v3 : Int32} {v4 : Int32} {v5 : Int32} {v6 : Int32} {v7 : Int32} {o : (Int32 × Int32 × Int32 × pxS) ⊕ (Int32 × pxS)} (h : Bo_passByChance_n18 σ k0 v2 v3 v4 v5 v6 v7 = some o) (hC : ∀ s, o = .inl s → pw l (px_R 7) y_Bo_passByChance c_Bo_passByChance 9 (some .int) 18 [(0, .inr (some (2, k0, 0))), (2, .inl v2), (3, .inl v3), (4, .inl s.1), (5, .inl s.2.1), (6, .inl v6), (7, .inl s.2.2.1)] [] ids cG s.2.2.2 0 0 Rt) (hX0 : ∀ e, o = .inr e → pw l (px_R 7) y_Bo_passByChance c_Bo_passByChance 9 (some .int) 91 [(5, .inl e.1)] [] ids cG e.2 0 0 Rt) : pw l (px_R 7) y_Bo_passByChance c_Bo_passByChance 9 (some .int) 18 [(0, .inr (some (2, k0, 0))), (2, .inl v2), (3, .inl v3), (4, .inl v4), (5, .inl v5), (6, .inl v6), (7, .inl v7)] [] ids cG σ 0 0 Rt := by
  unfold Bo_passByChance_n18 at h
  refine pw_iload 6 (px_at td_Bo_passByChance 10 rfl) rfl ?_
  refine pw_iload_n 1 (px_at td_Bo_passByChance 11 rfl) rfl rfl ?_
  rcases px_ite h with ⟨hc9, h⟩ | ⟨hc9, h⟩
  · refine pw_icmp_ge 91 (px_at td_Bo_passByChance 12 rfl) (by decide) (fun _ => ?_) (fun hn => absurd hc9 hn)
    refine pw_L [(5, .inl v5)] [4] rfl ?_
    exact hX0 (v5, σ) (Option.some.inj h).symm
  · refine pw_icmp_ge 91 (px_at td_Bo_passByChance 12 rfl) (by decide) (fun hn => absurd hn hc9) (fun _ => ?_)
    refine pw_iload 5 (px_at td_Bo_passByChance 13 rfl) rfl ?_
    rcases px_ite h with ⟨hc8, h⟩ | ⟨hc8, h⟩
    · refine pw_if_le 70 (px_at td_Bo_passByChance 14 rfl) (by decide) (fun _ => ?_) (fun hn => absurd hc8 hn)
      exact Bo_passByChance_n70_l h hC hX0
    · refine pw_if_le 70 (px_at td_Bo_passByChance 14 rfl) (by decide) (fun hn => absurd hn hc8) (fun _ => ?_)
      refine pw_iload 3 (px_at td_Bo_passByChance 15 rfl) rfl ?_
      obtain ⟨r2, hk2, h⟩ := px_b1_e h
      refine pw_cS1 [.inl v4] [] (px_at td_Bo_passByChance 16 rfl) lS_Bo_191 rfl rfl (Nat.le_of_ble_eq_true rfl) (by decide) (k_Bo_following hk2) ?_
      refine pw_istore (L' := [(4, .inl r2), (0, .inr (some (2, k0, 0))), (2, .inl v2), (3, .inl v3), (5, .inl v5), (6, .inl v6), (7, .inl v7)]) (px_at td_Bo_passByChance 17 rfl) (by decide) rfl ?_
      refine pw_iload 0 (px_at td_Bo_passByChance 18 rfl) rfl ?_
      refine pw_iload 5 (px_at td_Bo_passByChance 19 rfl) rfl ?_
      obtain ⟨r3, hk3, h⟩ := px_b1_e h
      refine pw_cS1 [.inl r2, .inl v6] [] (px_at td_Bo_passByChance 20 rfl) lS_Bo_194 rfl rfl (Nat.le_of_ble_eq_true rfl) (by decide) (k_Bo_drawn hk3) ?_
      refine pw_istore (L' := [(8, .inl r3), (4, .inl r2), (0, .inr (some (2, k0, 0))), (2, .inl v2), (3, .inl v3), (5, .inl v5), (6, .inl v6), (7, .inl v7)]) (px_at td_Bo_passByChance 21 rfl) (by decide) rfl ?_
      refine pw_iload 1 (px_at td_Bo_passByChance 22 rfl) rfl ?_
      obtain ⟨r4, hk4, h⟩ := px_b1_e h
      refine pw_cS1 [.inl r2] [] (px_at td_Bo_passByChance 23 rfl) lS_Bo_191 rfl rfl (Nat.le_of_ble_eq_true rfl) (by decide) (k_Bo_following hk4) ?_
      refine pw_istore (L' := [(4, .inl r4), (8, .inl r3), (0, .inr (some (2, k0, 0))), (2, .inl v2), (3, .inl v3), (5, .inl v5), (6, .inl v6), (7, .inl v7)]) (px_at td_Bo_passByChance 24 rfl) (by decide) rfl ?_
      refine pw_aload_n 2 (px_at td_Bo_passByChance 25 rfl) rfl rfl ?_
      refine pw_getf (v := .inr (some (9, k0, 0))) (px_at td_Bo_passByChance 26 rfl) lf_Bo_11 rfl rfl rfl ?_
      refine pw_iload 1 (px_at td_Bo_passByChance 27 rfl) rfl ?_
      obtain ⟨hi5, h⟩ := px_gd_e h
      refine pw_aald (r := (3, k0, r3.toNatClampNeg)) (px_at td_Bo_passByChance 28 rfl) rfl (fun _ => rfl) hi5 rfl ?_
      refine pw_iload 0 (px_at td_Bo_passByChance 29 rfl) rfl ?_
      refine pw_iload_n 4 (px_at td_Bo_passByChance 30 rfl) rfl rfl ?_
      refine pw_iconst (v := 1) (px_at td_Bo_passByChance 31 rfl) (by decide) ?_
      refine pw_iadd (px_at td_Bo_passByChance 32 rfl) ?_
      obtain ⟨r6, hk6, h⟩ := px_b1_e h
      refine pw_cS1 [.inl r4, .inl (v3 + 1)] [.inr (some (3, k0, r3.toNatClampNeg))] (px_at td_Bo_passByChance 33 rfl) lS_Bo_194 rfl rfl (Nat.le_of_ble_eq_true rfl) (by decide) (k_Bo_drawn hk6) ?_
      obtain ⟨σ7, hσ7, h⟩ := px_l_e h
      refine pw_puti (px_at td_Bo_passByChance 34 rfl) lw_Bo_197 rfl rfl (pw_s hσ7 ?_)
      refine pw_L [(0, .inr (some (2, k0, 0))), (2, .inl v2), (3, .inl v3), (4, .inl r4), (5, .inl v5), (6, .inl v6), (7, .inl v7)] [2, 3, 4, 0, 5, 6, 7] rfl ?_
      exact Bo_passByChance_n70_l h hC hX0
def Bo_passByChance_L18 (k0 : Nat) (v2 : Int32) (v3 : Int32) (v6 : Int32) : (Int32 × Int32 × Int32 × pxS) → Option ((Int32 × Int32 × Int32 × pxS) ⊕ (Int32 × pxS)) := fun s => Bo_passByChance_n18 s.2.2.2 k0 v2 v3 s.1 s.2.1 v6 s.2.2.1
set_option maxRecDepth 100000 in
theorem Bo_passByChance_L18_l {l : Launch} {ids : List pxI} {Rt : Option pxV → List pxI → pxG → pxS → Prop} {k0 : Nat} {v2 : Int32} {v3 : Int32} {v6 : Int32} {n : Nat} {s : Int32 × Int32 × Int32 × pxS} {e : Int32 × pxS} (h : px_it (Bo_passByChance_L18 k0 v2 v3 v6) n s = some e) (hX0 : pw l (px_R 7) y_Bo_passByChance c_Bo_passByChance 9 (some .int) 91 [(5, .inl e.1)] [] ids cG e.2 0 0 Rt) : pw l (px_R 7) y_Bo_passByChance c_Bo_passByChance 9 (some .int) 18 [(0, .inr (some (2, k0, 0))), (2, .inl v2), (3, .inl v3), (4, .inl s.1), (5, .inl s.2.1), (6, .inl v6), (7, .inl s.2.2.1)] [] ids cG s.2.2.2 0 0 Rt := by
  refine px_it_rule (f := Bo_passByChance_L18 k0 v2 v3 v6) (C := fun s => pw l (px_R 7) y_Bo_passByChance c_Bo_passByChance 9 (some .int) 18 [(0, .inr (some (2, k0, 0))), (2, .inl v2), (3, .inl v3), (4, .inl s.1), (5, .inl s.2.1), (6, .inl v6), (7, .inl s.2.2.1)] [] ids cG s.2.2.2 0 0 Rt) (X := fun e => (pw l (px_R 7) y_Bo_passByChance c_Bo_passByChance 9 (some .int) 91 [(5, .inl e.1)] [] ids cG e.2 0 0 Rt)) ?_ ?_ n s e h hX0
  · intro s s1 hf hC
    exact Bo_passByChance_n18_l hf (fun s2 hs => by cases hs; exact hC) (fun e he => by cases he)
  · intro s e hf hX
    exact Bo_passByChance_n18_l hf (fun s2 hs => by cases hs) (fun e1 he => by cases he; exact hX)
def F_Bo_passByChance (σ : pxS) (k0 : Nat) (v1 : Int32) (v2 : Int32) (v3 : Int32) : Option (Int32 × pxS) :=
  px_b1 (px_it (Bo_passByChance_L18 k0 v2 v3 (σ (1, (σ (2, k0, 0) 4).toNatClampNeg, 0) 0)) px_N (v1, 0, 0, σ)) fun e10 =>
  some (e10.1, e10.2)
set_option maxRecDepth 100000 in
theorem e_Bo_passByChance {l : Launch} {ids : List pxI} {Rt : Option pxV → List pxI → pxG → pxS → Prop} {σ : pxS} {k0 : Nat} {v1 : Int32} {v2 : Int32} {v3 : Int32} {res : Int32 × pxS} (h : F_Bo_passByChance σ k0 v1 v2 v3 = some res) (hR : Rt (some (.inl res.1)) ids cG res.2) : pw l (px_R 7) y_Bo_passByChance c_Bo_passByChance 9 (some .int) 0 [(0, .inr (some (2, k0, 0))), (1, .inl v1), (2, .inl v2), (3, .inl v3)] [] ids cG σ 0 0 Rt := by
  unfold F_Bo_passByChance at h
  refine pw_iload_n 1 (px_at td_Bo_passByChance 0 rfl) rfl rfl ?_
  refine pw_istore (L' := [(4, .inl v1), (0, .inr (some (2, k0, 0))), (1, .inl v1), (2, .inl v2), (3, .inl v3)]) (px_at td_Bo_passByChance 1 rfl) (by decide) rfl ?_
  refine pw_iconst (v := 0) (px_at td_Bo_passByChance 2 rfl) (by decide) ?_
  refine pw_istore (L' := [(5, .inl 0), (4, .inl v1), (0, .inr (some (2, k0, 0))), (1, .inl v1), (2, .inl v2), (3, .inl v3)]) (px_at td_Bo_passByChance 3 rfl) (by decide) rfl ?_
  refine pw_aload_n 2 (px_at td_Bo_passByChance 4 rfl) rfl rfl ?_
  refine pw_getf (v := .inr (some (1, (σ (2, k0, 0) 4).toNatClampNeg, 0))) (px_at td_Bo_passByChance 5 rfl) lf_Bo_31 rfl rfl rfl ?_
  refine pw_getf (v := .inl (σ (1, (σ (2, k0, 0) 4).toNatClampNeg, 0) 0)) (px_at td_Bo_passByChance 6 rfl) lf_Bo_70 rfl rfl rfl ?_
  refine pw_istore (L' := [(6, .inl (σ (1, (σ (2, k0, 0) 4).toNatClampNeg, 0) 0)), (5, .inl 0), (4, .inl v1), (0, .inr (some (2, k0, 0))), (1, .inl v1), (2, .inl v2), (3, .inl v3)]) (px_at td_Bo_passByChance 7 rfl) (by decide) rfl ?_
  refine pw_iconst (v := 0) (px_at td_Bo_passByChance 8 rfl) (by decide) ?_
  refine pw_istore (L' := [(7, .inl 0), (6, .inl (σ (1, (σ (2, k0, 0) 4).toNatClampNeg, 0) 0)), (5, .inl 0), (4, .inl v1), (0, .inr (some (2, k0, 0))), (1, .inl v1), (2, .inl v2), (3, .inl v3)]) (px_at td_Bo_passByChance 9 rfl) (by decide) rfl ?_
  obtain ⟨e10, he10, h⟩ := px_b1_e h
  refine pw_L [(0, .inr (some (2, k0, 0))), (2, .inl v2), (3, .inl v3), (4, .inl v1), (5, .inl 0), (6, .inl (σ (1, (σ (2, k0, 0) 4).toNatClampNeg, 0) 0)), (7, .inl 0)] [4, 6, 7, 3, 2, 1, 0] rfl ?_
  refine Bo_passByChance_L18_l he10 ?_
  refine pw_iload 0 (px_at td_Bo_passByChance 44 rfl) rfl ?_
  obtain rfl := Option.some.inj h
  exact pw_iret (px_at td_Bo_passByChance 45 rfl) rfl (Nat.le_refl 0) (Nat.le_refl 0) hR
theorem k_Bo_passByChance {l : Launch} {ids : List pxI} {σ : pxS} {k0 : Nat} {v1 : Int32} {v2 : Int32} {v3 : Int32} {res : Int32 × pxS} (h : F_Bo_passByChance σ k0 v1 v2 v3 = some res) : pm l y_Bo_passByChance c_Bo_passByChance 9 (some .int) (px_R 7) [.inr (some (2, k0, 0)), .inl v1, .inl v2, .inl v3] ids cG σ (px_r (some (.inl res.1)) ids cG res.2) :=
  pm_ofF (by decide +kernel) (Nat.le_of_ble_eq_true rfl) (e_Bo_passByChance h ⟨rfl, rfl, rfl, rfl⟩)
