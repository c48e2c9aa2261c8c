/-! Mo_copies_29_28 -/
def Mo_copies_29_28_n3 (σ : pxS) (v1 : Int32) (v3 : Int32) (v4 : Int32) : Option ((Int32 × pxS) ⊕ (pxS)) :=
  (if 308 ≤ v4 then some (.inr σ) else px_gd (v1 + v4) 308 (px_gd (v3 + v4) 308 (px_l (px_up σ (1, 28, 0) (v3 + v4).toNatClampNeg (σ (1, 29, 0) (v1 + v4).toNatClampNeg)) fun σ3 =>
  some (.inl ((v4 + 1), σ3)))))
set_option maxRecDepth 100000 in
theorem Mo_copies_29_28_n3_l {l : Launch} {ids : List pxI} {Rt : Option pxV → List pxI → pxG → pxS → Prop} {σ : pxS} {v1 : Int32} {v3 : Int32} {v4 : Int32} {o : (Int32 × pxS) ⊕ (pxS)} (h : Mo_copies_29_28_n3 σ v1 v3 v4 = some o) (hC : ∀ s, o = .inl s → pw l (px_R 1) y_Mo_copies c_Mo_copies 5 none 3 [(0, .inr (some (1, 29, 0))), (1, .inl v1), (2, .inr (some (1, 28, 0))), (3, .inl v3), (4, .inl s.1)] [] ids mG s.2 0 0 Rt) (hX0 : ∀ e, o = .inr e → pw l (px_R 1) y_Mo_copies c_Mo_copies 5 none 29 [] [] ids mG e 0 0 Rt) : pw l (px_R 1) y_Mo_copies c_Mo_copies 5 none 3 [(0, .inr (some (1, 29, 0))), (1, .inl v1), (2, .inr (some (1, 28, 0))), (3, .inl v3), (4, .inl v4)] [] ids mG σ 0 0 Rt := by
  unfold Mo_copies_29_28_n3 at h
  refine pw_iload 4 (px_at td_Mo_copies 2 rfl) rfl ?_
  refine pw_sipush (v := 308) (px_at td_Mo_copies 3 rfl) (by decide) ?_
  rcases px_ite h with ⟨hc4, h⟩ | ⟨hc4, h⟩
  · refine pw_icmp_ge 29 (px_at td_Mo_copies 4 rfl) (by decide) (fun _ => ?_) (fun hn => absurd hc4 hn)
    refine pw_L [] [] rfl ?_
    exact hX0 σ (Option.some.inj h).symm
  · refine pw_icmp_ge 29 (px_at td_Mo_copies 4 rfl) (by decide) (fun hn => absurd hn hc4) (fun _ => ?_)
    refine pw_aload_n 2 (px_at td_Mo_copies 5 rfl) rfl rfl ?_
    refine pw_iload_n 3 (px_at td_Mo_copies 6 rfl) rfl rfl ?_
    refine pw_iload 4 (px_at td_Mo_copies 7 rfl) rfl ?_
    refine pw_iadd (px_at td_Mo_copies 8 rfl) ?_
    refine pw_aload_n 0 (px_at td_Mo_copies 9 rfl) rfl rfl ?_
    refine pw_iload_n 1 (px_at td_Mo_copies 10 rfl) rfl rfl ?_
    refine pw_iload 4 (px_at td_Mo_copies 11 rfl) rfl ?_
    refine pw_iadd (px_at td_Mo_copies 12 rfl) ?_
    obtain ⟨hi1, h⟩ := px_gd_e h
    refine pw_ial (px_at td_Mo_copies 13 rfl) rfl hi1 rfl ?_
    obtain ⟨hi2, h⟩ := px_gd_e h
    obtain ⟨σ3, hσ3, h⟩ := px_l_e h
    refine pw_ias (px_at td_Mo_copies 14 rfl) rfl hi2 rfl hσ3 ?_
    refine pw_iinc (q := 4) (v := (v4 + 1)) (L' := [(4, .inl (v4 + 1)), (0, .inr (some (1, 29, 0))), (1, .inl v1), (2, .inr (some (1, 28, 0))), (3, .inl v3)]) (px_at td_Mo_copies 15 rfl) rfl rfl (by decide) rfl ?_
    refine pw_goto 3 (px_at td_Mo_copies 16 rfl) (by decide) ?_
    refine pw_L [(0, .inr (some (1, 29, 0))), (1, .inl v1), (2, .inr (some (1, 28, 0))), (3, .inl v3), (4, .inl (v4 + 1))] [1, 2, 3, 4, 0] rfl ?_
    exact hC ((v4 + 1), σ3) (Option.some.inj h).symm
def Mo_copies_29_28_L3 (v1 : Int32) (v3 : Int32) : (Int32 × pxS) → Option ((Int32 × pxS) ⊕ (pxS)) := fun s => Mo_copies_29_28_n3 s.2 v1 v3 s.1
set_option maxRecDepth 100000 in
theorem Mo_copies_29_28_L3_l {l : Launch} {ids : List pxI} {Rt : Option pxV → List pxI → pxG → pxS → Prop} {v1 : Int32} {v3 : Int32} {n : Nat} {s : Int32 × pxS} {e : pxS} (h : px_it (Mo_copies_29_28_L3 v1 v3) n s = some e) (hX0 : pw l (px_R 1) y_Mo_copies c_Mo_copies 5 none 29 [] [] ids mG e 0 0 Rt) : pw l (px_R 1) y_Mo_copies c_Mo_copies 5 none 3 [(0, .inr (some (1, 29, 0))), (1, .inl v1), (2, .inr (some (1, 28, 0))), (3, .inl v3), (4, .inl s.1)] [] ids mG s.2 0 0 Rt := by
  refine px_it_rule (f := Mo_copies_29_28_L3 v1 v3) (C := fun s => pw l (px_R 1) y_Mo_copies c_Mo_copies 5 none 3 [(0, .inr (some (1, 29, 0))), (1, .inl v1), (2, .inr (some (1, 28, 0))), (3, .inl v3), (4, .inl s.1)] [] ids mG s.2 0 0 Rt) (X := fun e => (pw l (px_R 1) y_Mo_copies c_Mo_copies 5 none 29 [] [] ids mG e 0 0 Rt)) ?_ ?_ n s e h hX0
  · intro s s1 hf hC
    exact Mo_copies_29_28_n3_l hf (fun s2 hs => by cases hs; exact hC) (fun e he => by cases he)
  · intro s e hf hX
    exact Mo_copies_29_28_n3_l hf (fun s2 hs => by cases hs) (fun e1 he => by cases he; exact hX)
def F_Mo_copies_29_28 (σ : pxS) (v1 : Int32) (v3 : Int32) : Option (pxS) :=
  px_b1 (px_it (Mo_copies_29_28_L3 v1 v3) px_N (0, σ)) fun e5 =>
  some e5
set_option maxRecDepth 100000 in
theorem e_Mo_copies_29_28 {l : Launch} {ids : List pxI} {Rt : Option pxV → List pxI → pxG → pxS → Prop} {σ : pxS} {v1 : Int32} {v3 : Int32} {res : pxS} (h : F_Mo_copies_29_28 σ v1 v3 = some res) (hR : Rt none ids mG res) : pw l (px_R 1) y_Mo_copies c_Mo_copies 5 none 0 [(0, .inr (some (1, 29, 0))), (1, .inl v1), (2, .inr (some (1, 28, 0))), (3, .inl v3)] [] ids mG σ 0 0 Rt := by
  unfold F_Mo_copies_29_28 at h
  refine pw_iconst (v := 0) (px_at td_Mo_copies 0 rfl) (by decide) ?_
  refine pw_istore (L' := [(4, .inl 0), (0, .inr (some (1, 29, 0))), (1, .inl v1), (2, .inr (some (1, 28, 0))), (3, .inl v3)]) (px_at td_Mo_copies 1 rfl) (by decide) rfl ?_
  obtain ⟨e5, he5, h⟩ := px_b1_e h
  refine pw_L [(0, .inr (some (1, 29, 0))), (1, .inl v1), (2, .inr (some (1, 28, 0))), (3, .inl v3), (4, .inl 0)] [1, 2, 3, 4, 0] rfl ?_
  refine Mo_copies_29_28_L3_l he5 ?_
  obtain rfl := Option.some.inj h
  exact pw_vret (px_at td_Mo_copies 17 rfl) rfl (Nat.le_refl 0) (Nat.le_refl 0) hR
theorem k_Mo_copies_29_28 {l : Launch} {ids : List pxI} {σ : pxS} {v1 : Int32} {v3 : Int32} {res : pxS} (h : F_Mo_copies_29_28 σ v1 v3 = some res) : pm l y_Mo_copies c_Mo_copies 5 none (px_R 1) [.inr (some (1, 29, 0)), .inl v1, .inr (some (1, 28, 0)), .inl v3] ids mG σ (px_r none ids mG res) :=
  pm_ofF (by decide +kernel) (Nat.le_of_ble_eq_true rfl) (e_Mo_copies_29_28 h ⟨rfl, rfl, rfl, rfl⟩)
/-! Mo_ahead -/
def Mo_ahead_n29 (σ : pxS)  : Option (Int32 × pxS) :=
  some ((-1), σ)
set_option maxRecDepth 100000 in
theorem Mo_ahead_n29_l {l : Launch} {ids : List pxI} {Rt : Option pxV → List pxI → pxG → pxS → Prop} {σ : pxS}  {res : Int32 × pxS} (h : Mo_ahead_n29 σ  = some res) (hR : Rt (some (.inl res.1)) ids mG res.2) : pw l (px_R 9) y_Mo_ahead c_Mo_ahead 8 (some .int) 29 [] [] ids mG σ 0 0 Rt := by
  unfold Mo_ahead_n29 at h
  refine pw_iconst (v := (-1)) (px_at td_Mo_ahead 15 rfl) (by decide) ?_
  obtain rfl := Option.some.inj h
  exact pw_iret (px_at td_Mo_ahead 16 rfl) rfl (Nat.le_refl 0) (Nat.le_refl 0) hR
def Mo_ahead_n75 (σ : pxS) (v2 : Int32) (v3 : Int32) (v4 : Int32) (v5 : Int32) (v6 : Int32) (v7 : Int32) : Option ((Int32 × Int32 × pxS) ⊕ (Int32 × pxS)) :=
  (if v2 ≤ v7 then some (.inr (v5, σ)) else px_b1 (F_Mo_tickGoes σ ) fun σ7 =>
  px_gd (v4 + 2) 308 (px_b1 (F_Mo_greater σ7 v5 (σ7 (1, 28, 0) (v4 + 2).toNatClampNeg)) fun r9 =>
  some (.inl (r9, (v7 + 1), σ7))))
set_option maxRecDepth 100000 in
theorem Mo_ahead_n75_l {l : Launch} {ids : List pxI} {Rt : Option pxV → List pxI → pxG → pxS → Prop} {σ : pxS} {v2 : Int32} {v3 : Int32} {v4 : Int32} {v5 : Int32} {v6 : Int32} {v7 : Int32} {o : (Int32 × Int32 × pxS) ⊕ (Int32 × pxS)} (h : Mo_ahead_n75 σ v2 v3 v4 v5 v6 v7 = some o) (hC : ∀ s, o = .inl s → pw l (px_R 9) y_Mo_ahead c_Mo_ahead 8 (some .int) 75 [(0, .inr (some (0, 0, 0))), (2, .inl v2), (3, .inl v3), (4, .inl v4), (5, .inl s.1), (6, .inl v6), (7, .inl s.2.1)] [] ids mG s.2.2 0 0 Rt) (hX0 : ∀ e, o = .inr e → pw l (px_R 9) y_Mo_ahead c_Mo_ahead 8 (some .int) 107 [(0, .inr (some (0, 0, 0))), (3, .inl v3), (4, .inl v4), (5, .inl e.1), (6, .inl v6)] [] ids mG e.2 0 0 Rt) : pw l (px_R 9) y_Mo_ahead c_Mo_ahead 8 (some .int) 75 [(0, .inr (some (0, 0, 0))), (2, .inl v2), (3, .inl v3), (4, .inl v4), (5, .inl v5), (6, .inl v6), (7, .inl v7)] [] ids mG σ 0 0 Rt := by
  unfold Mo_ahead_n75 at h
  refine pw_iload 6 (px_at td_Mo_ahead 44 rfl) rfl ?_
  refine pw_iload_n 1 (px_at td_Mo_ahead 45 rfl) rfl rfl ?_
  rcases px_ite h with ⟨hc10, h⟩ | ⟨hc10, h⟩
  · refine pw_icmp_ge 107 (px_at td_Mo_ahead 46 rfl) (by decide) (fun _ => ?_) (fun hn => absurd hc10 hn)
    refine pw_L [(0, .inr (some (0, 0, 0))), (3, .inl v3), (4, .inl v4), (5, .inl v5), (6, .inl v6)] [0, 2, 3, 4, 5] rfl ?_
    exact hX0 (v5, σ) (Option.some.inj h).symm
  · refine pw_icmp_ge 107 (px_at td_Mo_ahead 46 rfl) (by decide) (fun hn => absurd hn hc10) (fun _ => ?_)
    refine pw_aload_n 0 (px_at td_Mo_ahead 47 rfl) rfl rfl ?_
    obtain ⟨σ7, hk7, h⟩ := px_b1_e h
    refine pw_cV0 (0, 0, 0) [] [] (px_at td_Mo_ahead 48 rfl) lV_Mo_297 rfl rfl rfl (Nat.le_of_ble_eq_true rfl) (by decide) (k_Mo_tickGoes hk7) ?_
    refine pw_iload 4 (px_at td_Mo_ahead 49 rfl) rfl ?_
    refine pw_aload_n 0 (px_at td_Mo_ahead 50 rfl) rfl rfl ?_
    refine pw_getf (v := .inr (some (1, 28, 0))) (px_at td_Mo_ahead 51 rfl) lf_Mo_63 rfl rfl rfl ?_
    refine pw_iload 3 (px_at td_Mo_ahead 52 rfl) rfl ?_
    refine pw_iconst (v := 2) (px_at td_Mo_ahead 53 rfl) (by decide) ?_
    refine pw_iadd (px_at td_Mo_ahead 54 rfl) ?_
    obtain ⟨hi8, h⟩ := px_gd_e h
    refine pw_ial (px_at td_Mo_ahead 55 rfl) rfl hi8 rfl ?_
    obtain ⟨r9, hk9, h⟩ := px_b1_e h
    refine pw_cS1 [.inl v5, .inl (σ7 (1, 28, 0) (v4 + 2).toNatClampNeg)] [] (px_at td_Mo_ahead 56 rfl) lS_Mo_323 rfl rfl (Nat.le_of_ble_eq_true rfl) (by decide) (k_Mo_greater hk9) ?_
    refine pw_istore (L' := [(5, .inl r9), (0, .inr (some (0, 0, 0))), (2, .inl v2), (3, .inl v3), (4, .inl v4), (6, .inl v6), (7, .inl v7)]) (px_at td_Mo_ahead 57 rfl) (by decide) rfl ?_
    refine pw_iinc (q := 6) (v := (v7 + 1)) (L' := [(7, .inl (v7 + 1)), (5, .inl r9), (0, .inr (some (0, 0, 0))), (2, .inl v2), (3, .inl v3), (4, .inl v4), (6, .inl v6)]) (px_at td_Mo_ahead 58 rfl) rfl rfl (by decide) rfl ?_
    refine pw_goto 75 (px_at td_Mo_ahead 59 rfl) (by decide) ?_
    refine pw_L [(0, .inr (some (0, 0, 0))), (2, .inl v2), (3, .inl v3), (4, .inl v4), (5, .inl r9), (6, .inl v6), (7, .inl (v7 + 1))] [2, 3, 4, 5, 1, 6, 0] rfl ?_
    exact hC (r9, (v7 + 1), σ7) (Option.some.inj h).symm
def Mo_ahead_L75 (v2 : Int32) (v3 : Int32) (v4 : Int32) (v6 : Int32) : (Int32 × Int32 × pxS) → Option ((Int32 × Int32 × pxS) ⊕ (Int32 × pxS)) := fun s => Mo_ahead_n75 s.2.2 v2 v3 v4 s.1 v6 s.2.1
set_option maxRecDepth 100000 in
theorem Mo_ahead_L75_l {l : Launch} {ids : List pxI} {Rt : Option pxV → List pxI → pxG → pxS → Prop} {v2 : Int32} {v3 : Int32} {v4 : Int32} {v6 : Int32} {n : Nat} {s : Int32 × Int32 × pxS} {e : Int32 × pxS} (h : px_it (Mo_ahead_L75 v2 v3 v4 v6) n s = some e) (hX0 : pw l (px_R 9) y_Mo_ahead c_Mo_ahead 8 (some .int) 107 [(0, .inr (some (0, 0, 0))), (3, .inl v3), (4, .inl v4), (5, .inl e.1), (6, .inl v6)] [] ids mG e.2 0 0 Rt) : pw l (px_R 9) y_Mo_ahead c_Mo_ahead 8 (some .int) 75 [(0, .inr (some (0, 0, 0))), (2, .inl v2), (3, .inl v3), (4, .inl v4), (5, .inl s.1), (6, .inl v6), (7, .inl s.2.1)] [] ids mG s.2.2 0 0 Rt := by
  refine px_it_rule (f := Mo_ahead_L75 v2 v3 v4 v6) (C := fun s => pw l (px_R 9) y_Mo_ahead c_Mo_ahead 8 (some .int) 75 [(0, .inr (some (0, 0, 0))), (2, .inl v2), (3, .inl v3), (4, .inl v4), (5, .inl s.1), (6, .inl v6), (7, .inl s.2.1)] [] ids mG s.2.2 0 0 Rt) (X := fun e => (pw l (px_R 9) y_Mo_ahead c_Mo_ahead 8 (some .int) 107 [(0, .inr (some (0, 0, 0))), (3, .inl v3), (4, .inl v4), (5, .inl e.1), (6, .inl v6)] [] ids mG e.2 0 0 Rt)) ?_ ?_ n s e h hX0
  · intro s s1 hf hC
    exact Mo_ahead_n75_l hf (fun s2 hs => by cases hs; exact hC) (fun e he => by cases he)
  · intro s e hf hX
    exact Mo_ahead_n75_l hf (fun s2 hs => by cases hs) (fun e1 he => by cases he; exact hX)
def F_Mo_ahead (σ : pxS) (v1 : Int32) (v2 : Int32) (v3 : Int32) : Option (Int32 × pxS) :=
  px_l (px_up σ (0, 0, 0) 0 0) fun σ1 =>
  px_b1 (F_Mo_isRail σ1 v1) fun r2 =>
  (if r2 = 0 then Mo_ahead_n29 σ1  else px_b1 (F_Mo_isFar σ1 v2) fun r3 =>
  (if r3 = 0 then Mo_ahead_n29 σ1  else (if v3 < 0 then Mo_ahead_n29 σ1  else (if v3 ≤ 3 then px_b1 (F_Mo_copies_28_29 σ1 0 0) fun σ4 =>
  px_gd ((13 * v1) + 2) 308 (px_gd ((13 * v1) + 5) 308 (px_b1 (px_it (Mo_ahead_L75 v2 v3 (13 * v1) (σ4 (1, 28, 0) ((13 * v1) + 5).toNatClampNeg)) px_N ((σ4 (1, 28, 0) ((13 * v1) + 2).toNatClampNeg), 0, σ4)) fun e11 =>
  (if v3 = 0 then px_gd ((13 * v1) + 0) 308 (px_b1 (F_Mo_copies_29_28 e11.2 0 0) fun σ20 =>
  some ((e11.2 (1, 28, 0) ((13 * v1) + 0).toNatClampNeg), σ20)) else (if v3 = 1 then px_gd ((13 * v1) + 1) 308 (px_b1 (F_Mo_copies_29_28 e11.2 0 0) fun σ17 =>
  some ((e11.2 (1, 28, 0) ((13 * v1) + 1).toNatClampNeg), σ17)) else (if v3 = 2 then px_b1 (F_Mo_copies_29_28 e11.2 0 0) fun σ14 =>
  some (e11.1, σ14) else px_gd ((13 * v1) + 5) 308 (px_b1 (F_Mo_copies_29_28 e11.2 0 0) fun σ13 =>
  some (((e11.2 (1, 28, 0) ((13 * v1) + 5).toNatClampNeg) - (σ4 (1, 28, 0) ((13 * v1) + 5).toNatClampNeg)), σ13))))))) else Mo_ahead_n29 σ1 ))))
set_option maxRecDepth 100000 in
theorem e_Mo_ahead {l : Launch} {ids : List pxI} {Rt : Option pxV → List pxI → pxG → pxS → Prop} {σ : pxS} {v1 : Int32} {v2 : Int32} {v3 : Int32} {res : Int32 × pxS} (h : F_Mo_ahead σ v1 v2 v3 = some res) (hR : Rt (some (.inl res.1)) ids mG res.2) : pw l (px_R 9) y_Mo_ahead c_Mo_ahead 8 (some .int) 0 [(0, .inr (some (0, 0, 0))), (1, .inl v1), (2, .inl v2), (3, .inl v3)] [] ids mG σ 0 0 Rt := by
  unfold F_Mo_ahead at h
  refine pw_aload_n 0 (px_at td_Mo_ahead 0 rfl) rfl rfl ?_
  refine pw_iconst (v := 0) (px_at td_Mo_ahead 1 rfl) (by decide) ?_
  obtain ⟨σ1, hσ1, h⟩ := px_l_e h
  refine pw_puti (px_at td_Mo_ahead 2 rfl) lw_Mo_99 rfl rfl (pw_s hσ1 ?_)
  refine pw_aload_n 0 (px_at td_Mo_ahead 3 rfl) rfl rfl ?_
  refine pw_iload_n 1 (px_at td_Mo_ahead 4 rfl) rfl rfl ?_
  obtain ⟨r2, hk2, h⟩ := px_b1_e h
  refine pw_cV1 (0, 0, 0) [.inl v1] [] (px_at td_Mo_ahead 5 rfl) lV_Mo_300 rfl rfl rfl (Nat.le_of_ble_eq_true rfl) (by decide) (k_Mo_isRail hk2) ?_
  rcases px_ite h with ⟨hc25, h⟩ | ⟨hc25, h⟩
  · refine pw_if_eq 29 (px_at td_Mo_ahead 6 rfl) (by decide) (fun _ => ?_) (fun hn => absurd hc25 hn)
    refine pw_L [] [] rfl ?_
    exact Mo_ahead_n29_l h hR
  · refine pw_if_eq 29 (px_at td_Mo_ahead 6 rfl) (by decide) (fun hn => absurd hn hc25) (fun _ => ?_)
    refine pw_iload_n 2 (px_at td_Mo_ahead 7 rfl) rfl rfl ?_
    obtain ⟨r3, hk3, h⟩ := px_b1_e h
    refine pw_cS1 [.inl v2] [] (px_at td_Mo_ahead 8 rfl) lS_Mo_329 rfl rfl (Nat.le_of_ble_eq_true rfl) (by decide) (k_Mo_isFar hk3) ?_
    rcases px_ite h with ⟨hc24, h⟩ | ⟨hc24, h⟩
    · refine pw_if_eq 29 (px_at td_Mo_ahead 9 rfl) (by decide) (fun _ => ?_) (fun hn => absurd hc24 hn)
      refine pw_L [] [] rfl ?_
      exact Mo_ahead_n29_l h hR
    · refine pw_if_eq 29 (px_at td_Mo_ahead 9 rfl) (by decide) (fun hn => absurd hn hc24) (fun _ => ?_)
      refine pw_iload_n 3 (px_at td_Mo_ahead 10 rfl) rfl rfl ?_
      rcases px_ite h with ⟨hc23, h⟩ | ⟨hc23, h⟩
      · refine pw_if_lt 29 (px_at td_Mo_ahead 11 rfl) (by decide) (fun _ => ?_) (fun hn => absurd hc23 hn)
        refine pw_L [] [] rfl ?_
        exact Mo_ahead_n29_l h hR
      · refine pw_if_lt 29 (px_at td_Mo_ahead 11 rfl) (by decide) (fun hn => absurd hn hc23) (fun _ => ?_)
        refine pw_iload_n 3 (px_at td_Mo_ahead 12 rfl) rfl rfl ?_
        refine pw_iconst (v := 3) (px_at td_Mo_ahead 13 rfl) (by decide) ?_
        rcases px_ite h with ⟨hc22, h⟩ | ⟨hc22, h⟩
        · refine pw_icmp_le 31 (px_at td_Mo_ahead 14 rfl) (by decide) (fun _ => ?_) (fun hn => absurd hc22 hn)
          refine pw_aload_n 0 (px_at td_Mo_ahead 17 rfl) rfl rfl ?_
          refine pw_getf (v := .inr (some (1, 28, 0))) (px_at td_Mo_ahead 18 rfl) lf_Mo_63 rfl rfl rfl ?_
          refine pw_iconst (v := 0) (px_at td_Mo_ahead 19 rfl) (by decide) ?_
          refine pw_aload_n 0 (px_at td_Mo_ahead 20 rfl) rfl rfl ?_
          refine pw_getf (v := .inr (some (1, 29, 0))) (px_at td_Mo_ahead 21 rfl) lf_Mo_66 rfl rfl rfl ?_
          refine pw_iconst (v := 0) (px_at td_Mo_ahead 22 rfl) (by decide) ?_
          obtain ⟨σ4, hk4, h⟩ := px_b1_e h
          refine pw_cS0 [.inr (some (1, 28, 0)), .inl 0, .inr (some (1, 29, 0)), .inl 0] [] (px_at td_Mo_ahead 23 rfl) lS_Mo_226 rfl rfl (Nat.le_of_ble_eq_true rfl) (by decide) (k_Mo_copies_28_29 hk4) ?_
          refine pw_bipush (v := 13) (px_at td_Mo_ahead 24 rfl) (by decide) ?_
          refine pw_iload_n 1 (px_at td_Mo_ahead 25 rfl) rfl rfl ?_
          refine pw_imul (px_at td_Mo_ahead 26 rfl) ?_
          refine pw_istore (L' := [(4, .inl (13 * v1)), (0, .inr (some (0, 0, 0))), (1, .inl v1), (2, .inl v2), (3, .inl v3)]) (px_at td_Mo_ahead 27 rfl) (by decide) rfl ?_
          refine pw_aload_n 1 (px_at td_Mo_ahead 28 rfl) rfl rfl ?_
          refine pw_getf (v := .inr (some (1, 28, 0))) (px_at td_Mo_ahead 29 rfl) lf_Mo_63 rfl rfl rfl ?_
          refine pw_iload 0 (px_at td_Mo_ahead 30 rfl) rfl ?_
          refine pw_iconst (v := 2) (px_at td_Mo_ahead 31 rfl) (by decide) ?_
          refine pw_iadd (px_at td_Mo_ahead 32 rfl) ?_
          obtain ⟨hi5, h⟩ := px_gd_e h
          refine pw_ial (px_at td_Mo_ahead 33 rfl) rfl hi5 rfl ?_
          refine pw_istore (L' := [(5, .inl (σ4 (1, 28, 0) ((13 * v1) + 2).toNatClampNeg)), (4, .inl (13 * v1)), (0, .inr (some (0, 0, 0))), (1, .inl v1), (2, .inl v2), (3, .inl v3)]) (px_at td_Mo_ahead 34 rfl) (by decide) rfl ?_
          refine pw_aload_n 2 (px_at td_Mo_ahead 35 rfl) rfl rfl ?_
          refine pw_getf (v := .inr (some (1, 28, 0))) (px_at td_Mo_ahead 36 rfl) lf_Mo_63 rfl rfl rfl ?_
          refine pw_iload 1 (px_at td_Mo_ahead 37 rfl) rfl ?_
          refine pw_iconst (v := 5) (px_at td_Mo_ahead 38 rfl) (by decide) ?_
          refine pw_iadd (px_at td_Mo_ahead 39 rfl) ?_
          obtain ⟨hi6, h⟩ := px_gd_e h
          refine pw_ial (px_at td_Mo_ahead 40 rfl) rfl hi6 rfl ?_
          refine pw_istore (L' := [(6, .inl (σ4 (1, 28, 0) ((13 * v1) + 5).toNatClampNeg)), (5, .inl (σ4 (1, 28, 0) ((13 * v1) + 2).toNatClampNeg)), (4, .inl (13 * v1)), (0, .inr (some (0, 0, 0))), (1, .inl v1), (2, .inl v2), (3, .inl v3)]) (px_at td_Mo_ahead 41 rfl) (by decide) rfl ?_
          refine pw_iconst (v := 0) (px_at td_Mo_ahead 42 rfl) (by decide) ?_
          refine pw_istore (L' := [(7, .inl 0), (6, .inl (σ4 (1, 28, 0) ((13 * v1) + 5).toNatClampNeg)), (5, .inl (σ4 (1, 28, 0) ((13 * v1) + 2).toNatClampNeg)), (4, .inl (13 * v1)), (0, .inr (some (0, 0, 0))), (1, .inl v1), (2, .inl v2), (3, .inl v3)]) (px_at td_Mo_ahead 43 rfl) (by decide) rfl ?_
          obtain ⟨e11, he11, h⟩ := px_b1_e h
          refine pw_L [(0, .inr (some (0, 0, 0))), (2, .inl v2), (3, .inl v3), (4, .inl (13 * v1)), (5, .inl (σ4 (1, 28, 0) ((13 * v1) + 2).toNatClampNeg)), (6, .inl (σ4 (1, 28, 0) ((13 * v1) + 5).toNatClampNeg)), (7, .inl 0)] [4, 6, 7, 3, 2, 1, 0] rfl ?_
          refine Mo_ahead_L75_l he11 ?_
          refine pw_iload_n 1 (px_at td_Mo_ahead 60 rfl) rfl rfl ?_
          rcases px_ite h with ⟨hc21, h⟩ | ⟨hc21, h⟩
          · refine pw_if_ne 123 (px_at td_Mo_ahead 61 rfl) (by decide) (fun hn => absurd hc21 hn) (fun _ => ?_)
            refine pw_aload_n 0 (px_at td_Mo_ahead 62 rfl) rfl rfl ?_
            refine pw_getf (v := .inr (some (1, 28, 0))) (px_at td_Mo_ahead 63 rfl) lf_Mo_63 rfl rfl rfl ?_
            refine pw_iload 2 (px_at td_Mo_ahead 64 rfl) rfl ?_
            refine pw_iconst (v := 0) (px_at td_Mo_ahead 65 rfl) (by decide) ?_
            refine pw_iadd (px_at td_Mo_ahead 66 rfl) ?_
            obtain ⟨hi19, h⟩ := px_gd_e h
            refine pw_ial (px_at td_Mo_ahead 67 rfl) rfl hi19 rfl ?_
            refine pw_goto 162 (px_at td_Mo_ahead 68 rfl) (by decide) ?_
            refine pw_istore (L' := [(7, .inl (e11.2 (1, 28, 0) ((13 * v1) + 0).toNatClampNeg)), (0, .inr (some (0, 0, 0))), (3, .inl v3), (4, .inl (13 * v1)), (5, .inl e11.1), (6, .inl (σ4 (1, 28, 0) ((13 * v1) + 5).toNatClampNeg))]) (px_at td_Mo_ahead 92 rfl) (by decide) rfl ?_
            refine pw_aload_n 1 (px_at td_Mo_ahead 93 rfl) rfl rfl ?_
            refine pw_getf (v := .inr (some (1, 29, 0))) (px_at td_Mo_ahead 94 rfl) lf_Mo_66 rfl rfl rfl ?_
            refine pw_iconst (v := 0) (px_at td_Mo_ahead 95 rfl) (by decide) ?_
            refine pw_aload_n 1 (px_at td_Mo_ahead 96 rfl) rfl rfl ?_
            refine pw_getf (v := .inr (some (1, 28, 0))) (px_at td_Mo_ahead 97 rfl) lf_Mo_63 rfl rfl rfl ?_
            refine pw_iconst (v := 0) (px_at td_Mo_ahead 98 rfl) (by decide) ?_
            obtain ⟨σ20, hk20, h⟩ := px_b1_e h
            refine pw_cS0 [.inr (some (1, 29, 0)), .inl 0, .inr (some (1, 28, 0)), .inl 0] [] (px_at td_Mo_ahead 99 rfl) lS_Mo_226 rfl rfl (Nat.le_of_ble_eq_true rfl) (by decide) (k_Mo_copies_29_28 hk20) ?_
            refine pw_iload 0 (px_at td_Mo_ahead 100 rfl) rfl ?_
            obtain rfl := Option.some.inj h
            exact pw_iret (px_at td_Mo_ahead 101 rfl) rfl (Nat.le_refl 0) (Nat.le_refl 0) hR
          · refine pw_if_ne 123 (px_at td_Mo_ahead 61 rfl) (by decide) (fun _ => ?_) (fun hn => absurd hn hc21)
            refine pw_iload_n 1 (px_at td_Mo_ahead 69 rfl) rfl rfl ?_
            refine pw_iconst (v := 1) (px_at td_Mo_ahead 70 rfl) (by decide) ?_
            rcases px_ite h with ⟨hc18, h⟩ | ⟨hc18, h⟩
            · refine pw_icmp_ne 140 (px_at td_Mo_ahead 71 rfl) (by decide) (fun hn => absurd hc18 hn) (fun _ => ?_)
              refine pw_aload_n 0 (px_at td_Mo_ahead 72 rfl) rfl rfl ?_
              refine pw_getf (v := .inr (some (1, 28, 0))) (px_at td_Mo_ahead 73 rfl) lf_Mo_63 rfl rfl rfl ?_
              refine pw_iload 2 (px_at td_Mo_ahead 74 rfl) rfl ?_
              refine pw_iconst (v := 1) (px_at td_Mo_ahead 75 rfl) (by decide) ?_
              refine pw_iadd (px_at td_Mo_ahead 76 rfl) ?_
              obtain ⟨hi16, h⟩ := px_gd_e h
              refine pw_ial (px_at td_Mo_ahead 77 rfl) rfl hi16 rfl ?_
              refine pw_goto 162 (px_at td_Mo_ahead 78 rfl) (by decide) ?_
              refine pw_istore (L' := [(7, .inl (e11.2 (1, 28, 0) ((13 * v1) + 1).toNatClampNeg)), (0, .inr (some (0, 0, 0))), (3, .inl v3), (4, .inl (13 * v1)), (5, .inl e11.1), (6, .inl (σ4 (1, 28, 0) ((13 * v1) + 5).toNatClampNeg))]) (px_at td_Mo_ahead 92 rfl) (by decide) rfl ?_
              refine pw_aload_n 1 (px_at td_Mo_ahead 93 rfl) rfl rfl ?_
              refine pw_getf (v := .inr (some (1, 29, 0))) (px_at td_Mo_ahead 94 rfl) lf_Mo_66 rfl rfl rfl ?_
              refine pw_iconst (v := 0) (px_at td_Mo_ahead 95 rfl) (by decide) ?_
              refine pw_aload_n 1 (px_at td_Mo_ahead 96 rfl) rfl rfl ?_
              refine pw_getf (v := .inr (some (1, 28, 0))) (px_at td_Mo_ahead 97 rfl) lf_Mo_63 rfl rfl rfl ?_
              refine pw_iconst (v := 0) (px_at td_Mo_ahead 98 rfl) (by decide) ?_
              obtain ⟨σ17, hk17, h⟩ := px_b1_e h
              refine pw_cS0 [.inr (some (1, 29, 0)), .inl 0, .inr (some (1, 28, 0)), .inl 0] [] (px_at td_Mo_ahead 99 rfl) lS_Mo_226 rfl rfl (Nat.le_of_ble_eq_true rfl) (by decide) (k_Mo_copies_29_28 hk17) ?_
              refine pw_iload 0 (px_at td_Mo_ahead 100 rfl) rfl ?_
              obtain rfl := Option.some.inj h
              exact pw_iret (px_at td_Mo_ahead 101 rfl) rfl (Nat.le_refl 0) (Nat.le_refl 0) hR
            · refine pw_icmp_ne 140 (px_at td_Mo_ahead 71 rfl) (by decide) (fun _ => ?_) (fun hn => absurd hn hc18)
              refine pw_iload_n 1 (px_at td_Mo_ahead 79 rfl) rfl rfl ?_
              refine pw_iconst (v := 2) (px_at td_Mo_ahead 80 rfl) (by decide) ?_
              rcases px_ite h with ⟨hc15, h⟩ | ⟨hc15, h⟩
              · refine pw_icmp_ne 150 (px_at td_Mo_ahead 81 rfl) (by decide) (fun hn => absurd hc15 hn) (fun _ => ?_)
                refine pw_iload 3 (px_at td_Mo_ahead 82 rfl) rfl ?_
                refine pw_goto 162 (px_at td_Mo_ahead 83 rfl) (by decide) ?_
                refine pw_istore (L' := [(7, .inl e11.1), (0, .inr (some (0, 0, 0))), (3, .inl v3), (4, .inl (13 * v1)), (5, .inl e11.1), (6, .inl (σ4 (1, 28, 0) ((13 * v1) + 5).toNatClampNeg))]) (px_at td_Mo_ahead 92 rfl) (by decide) rfl ?_
                refine pw_aload_n 1 (px_at td_Mo_ahead 93 rfl) rfl rfl ?_
                refine pw_getf (v := .inr (some (1, 29, 0))) (px_at td_Mo_ahead 94 rfl) lf_Mo_66 rfl rfl rfl ?_
                refine pw_iconst (v := 0) (px_at td_Mo_ahead 95 rfl) (by decide) ?_
                refine pw_aload_n 1 (px_at td_Mo_ahead 96 rfl) rfl rfl ?_
                refine pw_getf (v := .inr (some (1, 28, 0))) (px_at td_Mo_ahead 97 rfl) lf_Mo_63 rfl rfl rfl ?_
                refine pw_iconst (v := 0) (px_at td_Mo_ahead 98 rfl) (by decide) ?_
                obtain ⟨σ14, hk14, h⟩ := px_b1_e h
                refine pw_cS0 [.inr (some (1, 29, 0)), .inl 0, .inr (some (1, 28, 0)), .inl 0] [] (px_at td_Mo_ahead 99 rfl) lS_Mo_226 rfl rfl (Nat.le_of_ble_eq_true rfl) (by decide) (k_Mo_copies_29_28 hk14) ?_
                refine pw_iload 0 (px_at td_Mo_ahead 100 rfl) rfl ?_
                obtain rfl := Option.some.inj h
                exact pw_iret (px_at td_Mo_ahead 101 rfl) rfl (Nat.le_refl 0) (Nat.le_refl 0) hR
              · refine pw_icmp_ne 150 (px_at td_Mo_ahead 81 rfl) (by decide) (fun _ => ?_) (fun hn => absurd hn hc15)
                refine pw_aload_n 0 (px_at td_Mo_ahead 84 rfl) rfl rfl ?_
                refine pw_getf (v := .inr (some (1, 28, 0))) (px_at td_Mo_ahead 85 rfl) lf_Mo_63 rfl rfl rfl ?_
                refine pw_iload 2 (px_at td_Mo_ahead 86 rfl) rfl ?_
                refine pw_iconst (v := 5) (px_at td_Mo_ahead 87 rfl) (by decide) ?_
                refine pw_iadd (px_at td_Mo_ahead 88 rfl) ?_
                obtain ⟨hi12, h⟩ := px_gd_e h
                refine pw_ial (px_at td_Mo_ahead 89 rfl) rfl hi12 rfl ?_
                refine pw_iload 4 (px_at td_Mo_ahead 90 rfl) rfl ?_
                refine pw_isub (px_at td_Mo_ahead 91 rfl) ?_
                refine pw_istore (L' := [(7, .inl ((e11.2 (1, 28, 0) ((13 * v1) + 5).toNatClampNeg) - (σ4 (1, 28, 0) ((13 * v1) + 5).toNatClampNeg))), (0, .inr (some (0, 0, 0))), (3, .inl v3), (4, .inl (13 * v1)), (5, .inl e11.1), (6, .inl (σ4 (1, 28, 0) ((13 * v1) + 5).toNatClampNeg))]) (px_at td_Mo_ahead 92 rfl) (by decide) rfl ?_
                refine pw_aload_n 1 (px_at td_Mo_ahead 93 rfl) rfl rfl ?_
                refine pw_getf (v := .inr (some (1, 29, 0))) (px_at td_Mo_ahead 94 rfl) lf_Mo_66 rfl rfl rfl ?_
                refine pw_iconst (v := 0) (px_at td_Mo_ahead 95 rfl) (by decide) ?_
                refine pw_aload_n 1 (px_at td_Mo_ahead 96 rfl) rfl rfl ?_
                refine pw_getf (v := .inr (some (1, 28, 0))) (px_at td_Mo_ahead 97 rfl) lf_Mo_63 rfl rfl rfl ?_
                refine pw_iconst (v := 0) (px_at td_Mo_ahead 98 rfl) (by decide) ?_
                obtain ⟨σ13, hk13, h⟩ := px_b1_e h
                refine pw_cS0 [.inr (some (1, 29, 0)), .inl 0, .inr (some (1, 28, 0)), .inl 0] [] (px_at td_Mo_ahead 99 rfl) lS_Mo_226 rfl rfl (Nat.le_of_ble_eq_true rfl) (by decide) (k_Mo_copies_29_28 hk13) ?_
                refine pw_iload 0 (px_at td_Mo_ahead 100 rfl) rfl ?_
                obtain rfl := Option.some.inj h
                exact pw_iret (px_at td_Mo_ahead 101 rfl) rfl (Nat.le_refl 0) (Nat.le_refl 0) hR
        · refine pw_icmp_le 31 (px_at td_Mo_ahead 14 rfl) (by decide) (fun hn => absurd hn hc22) (fun _ => ?_)
          refine pw_L [] [] rfl ?_
          exact Mo_ahead_n29_l h hR
theorem k_Mo_ahead {l : Launch} {ids : List pxI} {σ : pxS} {v1 : Int32} {v2 : Int32} {v3 : Int32} {res : Int32 × pxS} (h : F_Mo_ahead σ v1 v2 v3 = some res) : pm l y_Mo_ahead c_Mo_ahead 8 (some .int) (px_R 9) [.inr (some (0, 0, 0)), .inl v1, .inl v2, .inl v3] ids mG σ (px_r (some (.inl res.1)) ids mG res.2) :=
  pm_ofF (by decide +kernel) (Nat.le_of_ble_eq_true rfl) (e_Mo_ahead h ⟨rfl, rfl, rfl, rfl⟩)
/-! Mo_peak -/
def Mo_peak_n38 (σ : pxS) (v1 : Int32) (v2 : Int32) (v3 : Int32) : Option ((Int32 × Int32 × pxS) ⊕ (Int32 × pxS)) :=
  (if v1 ≤ v3 then some (.inr (v2, σ)) else px_b1 (F_Mo_tickGoes σ ) fun σ4 =>
  px_b1 (F_Mo_greater σ4 v2 (σ4 (1, 28, 0) 186)) fun r5 =>
  some (.inl (r5, (v3 + 1), σ4)))
set_option maxRecDepth 100000 in
theorem Mo_peak_n38_l {l : Launch} {ids : List pxI} {Rt : Option pxV → List pxI → pxG → pxS → Prop} {σ : pxS} {v1 : Int32} {v2 : Int32} {v3 : Int32} {o : (Int32 × Int32 × pxS) ⊕ (Int32 × pxS)} (h : Mo_peak_n38 σ v1 v2 v3 = some o) (hC : ∀ s, o = .inl s → pw l (px_R 9) y_Mo_peak c_Mo_peak 4 (some .int) 38 [(0, .inr (some (0, 0, 0))), (1, .inl v1), (2, .inl s.1), (3, .inl s.2.1)] [] ids mG s.2.2 0 0 Rt) (hX0 : ∀ e, o = .inr e → pw l (px_R 9) y_Mo_peak c_Mo_peak 4 (some .int) 66 [(0, .inr (some (0, 0, 0))), (2, .inl e.1)] [] ids mG e.2 0 0 Rt) : pw l (px_R 9) y_Mo_peak c_Mo_peak 4 (some .int) 38 [(0, .inr (some (0, 0, 0))), (1, .inl v1), (2, .inl v2), (3, .inl v3)] [] ids mG σ 0 0 Rt := by
  unfold Mo_peak_n38 at h
  refine pw_iload_n 3 (px_at td_Mo_peak 22 rfl) rfl rfl ?_
  refine pw_iload_n 1 (px_at td_Mo_peak 23 rfl) rfl rfl ?_
  rcases px_ite h with ⟨hc6, h⟩ | ⟨hc6, h⟩
  · refine pw_icmp_ge 66 (px_at td_Mo_peak 24 rfl) (by decide) (fun _ => ?_) (fun hn => absurd hc6 hn)
    refine pw_L [(0, .inr (some (0, 0, 0))), (2, .inl v2)] [0, 2] rfl ?_
    exact hX0 (v2, σ) (Option.some.inj h).symm
  · refine pw_icmp_ge 66 (px_at td_Mo_peak 24 rfl) (by decide) (fun hn => absurd hn hc6) (fun _ => ?_)
    refine pw_aload_n 0 (px_at td_Mo_peak 25 rfl) rfl rfl ?_
    obtain ⟨σ4, hk4, h⟩ := px_b1_e h
    refine pw_cV0 (0, 0, 0) [] [] (px_at td_Mo_peak 26 rfl) lV_Mo_297 rfl rfl rfl (Nat.le_of_ble_eq_true rfl) (by decide) (k_Mo_tickGoes hk4) ?_
    refine pw_iload_n 2 (px_at td_Mo_peak 27 rfl) rfl rfl ?_
    refine pw_aload_n 0 (px_at td_Mo_peak 28 rfl) rfl rfl ?_
    refine pw_getf (v := .inr (some (1, 28, 0))) (px_at td_Mo_peak 29 rfl) lf_Mo_63 rfl rfl rfl ?_
    refine pw_sipush (v := 186) (px_at td_Mo_peak 30 rfl) (by decide) ?_
    refine pw_ial (px_at td_Mo_peak 31 rfl) rfl (px_inL (by decide) px_z186 (by decide)) px_z186 ?_
    obtain ⟨r5, hk5, h⟩ := px_b1_e h
    refine pw_cS1 [.inl v2, .inl (σ4 (1, 28, 0) 186)] [] (px_at td_Mo_peak 32 rfl) lS_Mo_323 rfl rfl (Nat.le_of_ble_eq_true rfl) (by decide) (k_Mo_greater hk5) ?_
    refine pw_istore_n (L' := [(2, .inl r5), (0, .inr (some (0, 0, 0))), (1, .inl v1), (3, .inl v3)]) (px_at td_Mo_peak 33 rfl) rfl (by decide) rfl ?_
    refine pw_iinc (q := 3) (v := (v3 + 1)) (L' := [(3, .inl (v3 + 1)), (2, .inl r5), (0, .inr (some (0, 0, 0))), (1, .inl v1)]) (px_at td_Mo_peak 34 rfl) rfl rfl (by decide) rfl ?_
    refine pw_goto 38 (px_at td_Mo_peak 35 rfl) (by decide) ?_
    refine pw_L [(0, .inr (some (0, 0, 0))), (1, .inl v1), (2, .inl r5), (3, .inl (v3 + 1))] [2, 3, 1, 0] rfl ?_
    exact hC (r5, (v3 + 1), σ4) (Option.some.inj h).symm
def Mo_peak_L38 (v1 : Int32) : (Int32 × Int32 × pxS) → Option ((Int32 × Int32 × pxS) ⊕ (Int32 × pxS)) := fun s => Mo_peak_n38 s.2.2 v1 s.1 s.2.1
set_option maxRecDepth 100000 in
theorem Mo_peak_L38_l {l : Launch} {ids : List pxI} {Rt : Option pxV → List pxI → pxG → pxS → Prop} {v1 : Int32} {n : Nat} {s : Int32 × Int32 × pxS} {e : Int32 × pxS} (h : px_it (Mo_peak_L38 v1) n s = some e) (hX0 : pw l (px_R 9) y_Mo_peak c_Mo_peak 4 (some .int) 66 [(0, .inr (some (0, 0, 0))), (2, .inl e.1)] [] ids mG e.2 0 0 Rt) : pw l (px_R 9) y_Mo_peak c_Mo_peak 4 (some .int) 38 [(0, .inr (some (0, 0, 0))), (1, .inl v1), (2, .inl s.1), (3, .inl s.2.1)] [] ids mG s.2.2 0 0 Rt := by
  refine px_it_rule (f := Mo_peak_L38 v1) (C := fun s => pw l (px_R 9) y_Mo_peak c_Mo_peak 4 (some .int) 38 [(0, .inr (some (0, 0, 0))), (1, .inl v1), (2, .inl s.1), (3, .inl s.2.1)] [] ids mG s.2.2 0 0 Rt) (X := fun e => (pw l (px_R 9) y_Mo_peak c_Mo_peak 4 (some .int) 66 [(0, .inr (some (0, 0, 0))), (2, .inl e.1)] [] ids mG e.2 0 0 Rt)) ?_ ?_ n s e h hX0
  · intro s s1 hf hC
    exact Mo_peak_n38_l hf (fun s2 hs => by cases hs; exact hC) (fun e he => by cases he)
  · intro s e hf hX
    exact Mo_peak_n38_l hf (fun s2 hs => by cases hs) (fun e1 he => by cases he; exact hX)
def F_Mo_peak (σ : pxS) (v1 : Int32) : Option (Int32 × pxS) :=
  px_l (px_up σ (0, 0, 0) 0 0) fun σ1 =>
  px_b1 (F_Mo_isFar σ1 v1) fun r2 =>
  (if r2 = 0 then some ((-1), σ1) else px_b1 (F_Mo_copies_28_29 σ1 0 0) fun σ3 =>
  px_b1 (px_it (Mo_peak_L38 v1) px_N ((σ3 (1, 28, 0) 186), 0, σ3)) fun e7 =>
  px_b1 (F_Mo_copies_29_28 e7.2 0 0) fun σ8 =>
  some (e7.1, σ8))
set_option maxRecDepth 100000 in
theorem e_Mo_peak {l : Launch} {ids : List pxI} {Rt : Option pxV → List pxI → pxG → pxS → Prop} {σ : pxS} {v1 : Int32} {res : Int32 × pxS} (h : F_Mo_peak σ v1 = some res) (hR : Rt (some (.inl res.1)) ids mG res.2) : pw l (px_R 9) y_Mo_peak c_Mo_peak 4 (some .int) 0 [(0, .inr (some (0, 0, 0))), (1, .inl v1)] [] ids mG σ 0 0 Rt := by
  unfold F_Mo_peak at h
  refine pw_aload_n 0 (px_at td_Mo_peak 0 rfl) rfl rfl ?_
  refine pw_iconst (v := 0) (px_at td_Mo_peak 1 rfl) (by decide) ?_
  obtain ⟨σ1, hσ1, h⟩ := px_l_e h
  refine pw_puti (px_at td_Mo_peak 2 rfl) lw_Mo_99 rfl rfl (pw_s hσ1 ?_)
  refine pw_iload_n 1 (px_at td_Mo_peak 3 rfl) rfl rfl ?_
  obtain ⟨r2, hk2, h⟩ := px_b1_e h
  refine pw_cS1 [.inl v1] [] (px_at td_Mo_peak 4 rfl) lS_Mo_329 rfl rfl (Nat.le_of_ble_eq_true rfl) (by decide) (k_Mo_isFar hk2) ?_
  rcases px_ite h with ⟨hc9, h⟩ | ⟨hc9, h⟩
  · refine pw_if_ne 14 (px_at td_Mo_peak 5 rfl) (by decide) (fun hn => absurd hc9 hn) (fun _ => ?_)
    refine pw_iconst (v := (-1)) (px_at td_Mo_peak 6 rfl) (by decide) ?_
    obtain rfl := Option.some.inj h
    exact pw_iret (px_at td_Mo_peak 7 rfl) rfl (Nat.le_refl 0) (Nat.le_refl 0) hR
  · refine pw_if_ne 14 (px_at td_Mo_peak 5 rfl) (by decide) (fun _ => ?_) (fun hn => absurd hn hc9)
    refine pw_aload_n 0 (px_at td_Mo_peak 8 rfl) rfl rfl ?_
    refine pw_getf (v := .inr (some (1, 28, 0))) (px_at td_Mo_peak 9 rfl) lf_Mo_63 rfl rfl rfl ?_
    refine pw_iconst (v := 0) (px_at td_Mo_peak 10 rfl) (by decide) ?_
    refine pw_aload_n 0 (px_at td_Mo_peak 11 rfl) rfl rfl ?_
    refine pw_getf (v := .inr (some (1, 29, 0))) (px_at td_Mo_peak 12 rfl) lf_Mo_66 rfl rfl rfl ?_
    refine pw_iconst (v := 0) (px_at td_Mo_peak 13 rfl) (by decide) ?_
    obtain ⟨σ3, hk3, h⟩ := px_b1_e h
    refine pw_cS0 [.inr (some (1, 28, 0)), .inl 0, .inr (some (1, 29, 0)), .inl 0] [] (px_at td_Mo_peak 14 rfl) lS_Mo_226 rfl rfl (Nat.le_of_ble_eq_true rfl) (by decide) (k_Mo_copies_28_29 hk3) ?_
    refine pw_aload_n 0 (px_at td_Mo_peak 15 rfl) rfl rfl ?_
    refine pw_getf (v := .inr (some (1, 28, 0))) (px_at td_Mo_peak 16 rfl) lf_Mo_63 rfl rfl rfl ?_
    refine pw_sipush (v := 186) (px_at td_Mo_peak 17 rfl) (by decide) ?_
    refine pw_ial (px_at td_Mo_peak 18 rfl) rfl (px_inL (by decide) px_z186 (by decide)) px_z186 ?_
    refine pw_istore_n (L' := [(2, .inl (σ3 (1, 28, 0) 186)), (0, .inr (some (0, 0, 0))), (1, .inl v1)]) (px_at td_Mo_peak 19 rfl) rfl (by decide) rfl ?_
    refine pw_iconst (v := 0) (px_at td_Mo_peak 20 rfl) (by decide) ?_
    refine pw_istore_n (L' := [(3, .inl 0), (2, .inl (σ3 (1, 28, 0) 186)), (0, .inr (some (0, 0, 0))), (1, .inl v1)]) (px_at td_Mo_peak 21 rfl) rfl (by decide) rfl ?_
    obtain ⟨e7, he7, h⟩ := px_b1_e h
    refine pw_L [(0, .inr (some (0, 0, 0))), (1, .inl v1), (2, .inl (σ3 (1, 28, 0) 186)), (3, .inl 0)] [2, 3, 1, 0] rfl ?_
    refine Mo_peak_L38_l he7 ?_
    refine pw_aload_n 0 (px_at td_Mo_peak 36 rfl) rfl rfl ?_
    refine pw_getf (v := .inr (some (1, 29, 0))) (px_at td_Mo_peak 37 rfl) lf_Mo_66 rfl rfl rfl ?_
    refine pw_iconst (v := 0) (px_at td_Mo_peak 38 rfl) (by decide) ?_
    refine pw_aload_n 0 (px_at td_Mo_peak 39 rfl) rfl rfl ?_
    refine pw_getf (v := .inr (some (1, 28, 0))) (px_at td_Mo_peak 40 rfl) lf_Mo_63 rfl rfl rfl ?_
    refine pw_iconst (v := 0) (px_at td_Mo_peak 41 rfl) (by decide) ?_
    obtain ⟨σ8, hk8, h⟩ := px_b1_e h
    refine pw_cS0 [.inr (some (1, 29, 0)), .inl 0, .inr (some (1, 28, 0)), .inl 0] [] (px_at td_Mo_peak 42 rfl) lS_Mo_226 rfl rfl (Nat.le_of_ble_eq_true rfl) (by decide) (k_Mo_copies_29_28 hk8) ?_
    refine pw_iload_n 1 (px_at td_Mo_peak 43 rfl) rfl rfl ?_
    obtain rfl := Option.some.inj h
    exact pw_iret (px_at td_Mo_peak 44 rfl) rfl (Nat.le_refl 0) (Nat.le_refl 0) hR
theorem k_Mo_peak {l : Launch} {ids : List pxI} {σ : pxS} {v1 : Int32} {res : Int32 × pxS} (h : F_Mo_peak σ v1 = some res) : pm l y_Mo_peak c_Mo_peak 4 (some .int) (px_R 9) [.inr (some (0, 0, 0)), .inl v1] ids mG σ (px_r (some (.inl res.1)) ids mG res.2) :=
  pm_ofF (by decide +kernel) (Nat.le_of_ble_eq_true rfl) (e_Mo_peak h ⟨rfl, rfl, rfl, rfl⟩)
/-! Mo_isQuiet -/
def Mo_isQuiet_n23 (σ : pxS)  : Option (Int32) :=
  some (0)
set_option maxRecDepth 100000 in
theorem Mo_isQuiet_n23_l {l : Launch} {ids : List pxI} {Rt : Option pxV → List pxI → pxG → pxS → Prop} {σ : pxS}  {res : Int32} (h : Mo_isQuiet_n23 σ  = some res) (hR : Rt (some (.inl res)) ids mG σ) : pw l (px_R 2) y_Mo_isQuiet c_Mo_isQuiet 3 (some .boolean) 23 [] [] ids mG σ 0 0 Rt := by
  unfold Mo_isQuiet_n23 at h
  refine pw_iconst (v := 0) (px_at td_Mo_isQuiet 11 rfl) (by decide) ?_
  obtain rfl := Option.some.inj h
  exact pw_zret (px_at td_Mo_isQuiet 12 rfl) rfl (by decide) (Nat.le_refl 0) (Nat.le_refl 0) hR
def Mo_isQuiet_n91 (σ : pxS) (v1 : Int32) : Option ((Int32) ⊕ (Nat)) :=
  some (.inr 0)
set_option maxRecDepth 100000 in
theorem Mo_isQuiet_n91_l {l : Launch} {ids : List pxI} {Rt : Option pxV → List pxI → pxG → pxS → Prop} {σ : pxS} {v1 : Int32} {o : (Int32) ⊕ (Nat)} (h : Mo_isQuiet_n91 σ v1 = some o) (hC : ∀ s, o = .inl s → pw l (px_R 2) y_Mo_isQuiet c_Mo_isQuiet 3 (some .boolean) 27 [(0, .inr (some (0, 0, 0))), (1, .inl s)] [] ids mG σ 0 0 Rt) (hX0 : ∀ e, o = .inr e → e = 0 → pw l (px_R 2) y_Mo_isQuiet c_Mo_isQuiet 3 (some .boolean) 97 [] [] ids mG σ 0 0 Rt) (hX1 : ∀ e, o = .inr e → e = 1 → pw l (px_R 2) y_Mo_isQuiet c_Mo_isQuiet 3 (some .boolean) 105 [] [] ids mG σ 0 0 Rt) : pw l (px_R 2) y_Mo_isQuiet c_Mo_isQuiet 3 (some .boolean) 91 [(0, .inr (some (0, 0, 0))), (1, .inl v1)] [] ids mG σ 0 0 Rt := by
  unfold Mo_isQuiet_n91 at h
  refine pw_iconst (v := 0) (px_at td_Mo_isQuiet 52 rfl) (by decide) ?_
  refine pw_istore_n (L' := [(2, .inl 0), (0, .inr (some (0, 0, 0))), (1, .inl v1)]) (px_at td_Mo_isQuiet 53 rfl) rfl (by decide) rfl ?_
  refine pw_iload_n 0 (px_at td_Mo_isQuiet 54 rfl) rfl rfl ?_
  refine pw_if_ne 99 (px_at td_Mo_isQuiet 55 rfl) (by decide) (fun hn => absurd hn (by decide)) (fun hn => ?_)
  refine pw_L [] [] rfl ?_
  exact hX0 0 (Option.some.inj h).symm rfl
def Mo_isQuiet_n87 (σ : pxS) (v1 : Int32) : Option ((Int32) ⊕ (Nat)) :=
  some (.inl (v1 + 1))
set_option maxRecDepth 100000 in
theorem Mo_isQuiet_n87_l {l : Launch} {ids : List pxI} {Rt : Option pxV → List pxI → pxG → pxS → Prop} {σ : pxS} {v1 : Int32} {o : (Int32) ⊕ (Nat)} (h : Mo_isQuiet_n87 σ v1 = some o) (hC : ∀ s, o = .inl s → pw l (px_R 2) y_Mo_isQuiet c_Mo_isQuiet 3 (some .boolean) 27 [(0, .inr (some (0, 0, 0))), (1, .inl s)] [] ids mG σ 0 0 Rt) (hX0 : ∀ e, o = .inr e → e = 0 → pw l (px_R 2) y_Mo_isQuiet c_Mo_isQuiet 3 (some .boolean) 97 [] [] ids mG σ 0 0 Rt) (hX1 : ∀ e, o = .inr e → e = 1 → pw l (px_R 2) y_Mo_isQuiet c_Mo_isQuiet 3 (some .boolean) 105 [] [] ids mG σ 0 0 Rt) : pw l (px_R 2) y_Mo_isQuiet c_Mo_isQuiet 3 (some .boolean) 87 [(0, .inr (some (0, 0, 0))), (1, .inl v1)] [] ids mG σ 0 0 Rt := by
  unfold Mo_isQuiet_n87 at h
  refine pw_iconst (v := 1) (px_at td_Mo_isQuiet 50 rfl) (by decide) ?_
  refine pw_goto 92 (px_at td_Mo_isQuiet 51 rfl) (by decide) ?_
  refine pw_istore_n (L' := [(2, .inl 1), (0, .inr (some (0, 0, 0))), (1, .inl v1)]) (px_at td_Mo_isQuiet 53 rfl) rfl (by decide) rfl ?_
  refine pw_iload_n 0 (px_at td_Mo_isQuiet 54 rfl) rfl rfl ?_
  refine pw_if_ne 99 (px_at td_Mo_isQuiet 55 rfl) (by decide) (fun hn => ?_) (fun hn => absurd hn (by decide))
  refine pw_iinc (q := 2) (v := (v1 + 1)) (L' := [(1, .inl (v1 + 1)), (2, .inl 1), (0, .inr (some (0, 0, 0)))]) (px_at td_Mo_isQuiet 58 rfl) rfl rfl (by decide) rfl ?_
  refine pw_goto 27 (px_at td_Mo_isQuiet 59 rfl) (by decide) ?_
  refine pw_L [(0, .inr (some (0, 0, 0))), (1, .inl (v1 + 1))] [2, 0] rfl ?_
  exact hC (v1 + 1) (Option.some.inj h).symm
def Mo_isQuiet_n58 (σ : pxS) (v1 : Int32) : Option ((Int32) ⊕ (Nat)) :=
  px_b1 (F_Mo_state σ v1) fun r3 =>
  (if r3 = 3 then px_gd ((13 * v1) + 1) 308 (px_gd v1 24 ((if (σ (1, 28, 0) ((13 * v1) + 1).toNatClampNeg) = (σ (1, 7, 0) v1.toNatClampNeg) then Mo_isQuiet_n87 σ v1 else Mo_isQuiet_n91 σ v1))) else Mo_isQuiet_n91 σ v1)
set_option maxRecDepth 100000 in
theorem Mo_isQuiet_n58_l {l : Launch} {ids : List pxI} {Rt : Option pxV → List pxI → pxG → pxS → Prop} {σ : pxS} {v1 : Int32} {o : (Int32) ⊕ (Nat)} (h : Mo_isQuiet_n58 σ v1 = some o) (hC : ∀ s, o = .inl s → pw l (px_R 2) y_Mo_isQuiet c_Mo_isQuiet 3 (some .boolean) 27 [(0, .inr (some (0, 0, 0))), (1, .inl s)] [] ids mG σ 0 0 Rt) (hX0 : ∀ e, o = .inr e → e = 0 → pw l (px_R 2) y_Mo_isQuiet c_Mo_isQuiet 3 (some .boolean) 97 [] [] ids mG σ 0 0 Rt) (hX1 : ∀ e, o = .inr e → e = 1 → pw l (px_R 2) y_Mo_isQuiet c_Mo_isQuiet 3 (some .boolean) 105 [] [] ids mG σ 0 0 Rt) : pw l (px_R 2) y_Mo_isQuiet c_Mo_isQuiet 3 (some .boolean) 58 [(0, .inr (some (0, 0, 0))), (1, .inl v1)] [] ids mG σ 0 0 Rt := by
  unfold Mo_isQuiet_n58 at h
  refine pw_aload_n 0 (px_at td_Mo_isQuiet 32 rfl) rfl rfl ?_
  refine pw_iload_n 1 (px_at td_Mo_isQuiet 33 rfl) rfl rfl ?_
  obtain ⟨r3, hk3, h⟩ := px_b1_e h
  refine pw_cV1 (0, 0, 0) [.inl v1] [] (px_at td_Mo_isQuiet 34 rfl) lV_Mo_230 rfl rfl rfl (Nat.le_of_ble_eq_true rfl) (by decide) (k_Mo_state hk3) ?_
  refine pw_iconst (v := 3) (px_at td_Mo_isQuiet 35 rfl) (by decide) ?_
  rcases px_ite h with ⟨hc7, h⟩ | ⟨hc7, h⟩
  · refine pw_icmp_ne 91 (px_at td_Mo_isQuiet 36 rfl) (by decide) (fun hn => absurd hc7 hn) (fun _ => ?_)
    refine pw_aload_n 0 (px_at td_Mo_isQuiet 37 rfl) rfl rfl ?_
    refine pw_getf (v := .inr (some (1, 28, 0))) (px_at td_Mo_isQuiet 38 rfl) lf_Mo_63 rfl rfl rfl ?_
    refine pw_bipush (v := 13) (px_at td_Mo_isQuiet 39 rfl) (by decide) ?_
    refine pw_iload_n 1 (px_at td_Mo_isQuiet 40 rfl) rfl rfl ?_
    refine pw_imul (px_at td_Mo_isQuiet 41 rfl) ?_
    refine pw_iconst (v := 1) (px_at td_Mo_isQuiet 42 rfl) (by decide) ?_
    refine pw_iadd (px_at td_Mo_isQuiet 43 rfl) ?_
    obtain ⟨hi4, h⟩ := px_gd_e h
    refine pw_ial (px_at td_Mo_isQuiet 44 rfl) rfl hi4 rfl ?_
    refine pw_aload_n 0 (px_at td_Mo_isQuiet 45 rfl) rfl rfl ?_
    refine pw_getf (v := .inr (some (1, 7, 0))) (px_at td_Mo_isQuiet 46 rfl) lf_Mo_26 rfl rfl rfl ?_
    refine pw_iload_n 1 (px_at td_Mo_isQuiet 47 rfl) rfl rfl ?_
    obtain ⟨hi5, h⟩ := px_gd_e h
    refine pw_ial (px_at td_Mo_isQuiet 48 rfl) rfl hi5 rfl ?_
    rcases px_ite h with ⟨hc6, h⟩ | ⟨hc6, h⟩
    · refine pw_icmp_ne 91 (px_at td_Mo_isQuiet 49 rfl) (by decide) (fun hn => absurd hc6 hn) (fun _ => ?_)
      exact Mo_isQuiet_n87_l h hC hX0 hX1
    · refine pw_icmp_ne 91 (px_at td_Mo_isQuiet 49 rfl) (by decide) (fun _ => ?_) (fun hn => absurd hn hc6)
      exact Mo_isQuiet_n91_l h hC hX0 hX1
  · refine pw_icmp_ne 91 (px_at td_Mo_isQuiet 36 rfl) (by decide) (fun _ => ?_) (fun hn => absurd hn hc7)
    exact Mo_isQuiet_n91_l h hC hX0 hX1
def Mo_isQuiet_n27 (σ : pxS) (v1 : Int32) : Option ((Int32) ⊕ (Nat)) :=
  px_b1 (F_Mo_rails σ ) fun r1 =>
  (if r1 ≤ v1 then some (.inr 1) else px_gd ((13 * v1) + 10) 308 ((if (σ (1, 28, 0) ((13 * v1) + 10).toNatClampNeg) = 0 then px_b1 (F_Mo_state σ v1) fun r8 =>
  (if r8 = 0 then Mo_isQuiet_n87 σ v1 else Mo_isQuiet_n58 σ v1) else Mo_isQuiet_n58 σ v1)))
set_option maxRecDepth 100000 in
theorem Mo_isQuiet_n27_l {l : Launch} {ids : List pxI} {Rt : Option pxV → List pxI → pxG → pxS → Prop} {σ : pxS} {v1 : Int32} {o : (Int32) ⊕ (Nat)} (h : Mo_isQuiet_n27 σ v1 = some o) (hC : ∀ s, o = .inl s → pw l (px_R 2) y_Mo_isQuiet c_Mo_isQuiet 3 (some .boolean) 27 [(0, .inr (some (0, 0, 0))), (1, .inl s)] [] ids mG σ 0 0 Rt) (hX0 : ∀ e, o = .inr e → e = 0 → pw l (px_R 2) y_Mo_isQuiet c_Mo_isQuiet 3 (some .boolean) 97 [] [] ids mG σ 0 0 Rt) (hX1 : ∀ e, o = .inr e → e = 1 → pw l (px_R 2) y_Mo_isQuiet c_Mo_isQuiet 3 (some .boolean) 105 [] [] ids mG σ 0 0 Rt) : pw l (px_R 2) y_Mo_isQuiet c_Mo_isQuiet 3 (some .boolean) 27 [(0, .inr (some (0, 0, 0))), (1, .inl v1)] [] ids mG σ 0 0 Rt := by
  unfold Mo_isQuiet_n27 at h
  refine pw_iload_n 1 (px_at td_Mo_isQuiet 15 rfl) rfl rfl ?_
  refine pw_aload_n 0 (px_at td_Mo_isQuiet 16 rfl) rfl rfl ?_
  obtain ⟨r1, hk1, h⟩ := px_b1_e h
  refine pw_cV1 (0, 0, 0) [] [.inl v1] (px_at td_Mo_isQuiet 17 rfl) lV_Mo_223 rfl rfl rfl (Nat.le_of_ble_eq_true rfl) (by decide) (k_Mo_rails hk1) ?_
  rcases px_ite h with ⟨hc11, h⟩ | ⟨hc11, h⟩
  · refine pw_icmp_ge 105 (px_at td_Mo_isQuiet 18 rfl) (by decide) (fun _ => ?_) (fun hn => absurd hc11 hn)
    refine pw_L [] [] rfl ?_
    exact hX1 1 (Option.some.inj h).symm rfl
  · refine pw_icmp_ge 105 (px_at td_Mo_isQuiet 18 rfl) (by decide) (fun hn => absurd hn hc11) (fun _ => ?_)
    refine pw_aload_n 0 (px_at td_Mo_isQuiet 19 rfl) rfl rfl ?_
    refine pw_getf (v := .inr (some (1, 28, 0))) (px_at td_Mo_isQuiet 20 rfl) lf_Mo_63 rfl rfl rfl ?_
    refine pw_bipush (v := 13) (px_at td_Mo_isQuiet 21 rfl) (by decide) ?_
    refine pw_iload_n 1 (px_at td_Mo_isQuiet 22 rfl) rfl rfl ?_
    refine pw_imul (px_at td_Mo_isQuiet 23 rfl) ?_
    refine pw_bipush (v := 10) (px_at td_Mo_isQuiet 24 rfl) (by decide) ?_
    refine pw_iadd (px_at td_Mo_isQuiet 25 rfl) ?_
    obtain ⟨hi2, h⟩ := px_gd_e h
    refine pw_ial (px_at td_Mo_isQuiet 26 rfl) rfl hi2 rfl ?_
    rcases px_ite h with ⟨hc10, h⟩ | ⟨hc10, h⟩
    · refine pw_if_ne 58 (px_at td_Mo_isQuiet 27 rfl) (by decide) (fun hn => absurd hc10 hn) (fun _ => ?_)
      refine pw_aload_n 0 (px_at td_Mo_isQuiet 28 rfl) rfl rfl ?_
      refine pw_iload_n 1 (px_at td_Mo_isQuiet 29 rfl) rfl rfl ?_
      obtain ⟨r8, hk8, h⟩ := px_b1_e h
      refine pw_cV1 (0, 0, 0) [.inl v1] [] (px_at td_Mo_isQuiet 30 rfl) lV_Mo_230 rfl rfl rfl (Nat.le_of_ble_eq_true rfl) (by decide) (k_Mo_state hk8) ?_
      rcases px_ite h with ⟨hc9, h⟩ | ⟨hc9, h⟩
      · refine pw_if_eq 87 (px_at td_Mo_isQuiet 31 rfl) (by decide) (fun _ => ?_) (fun hn => absurd hc9 hn)
        exact Mo_isQuiet_n87_l h hC hX0 hX1
      · refine pw_if_eq 87 (px_at td_Mo_isQuiet 31 rfl) (by decide) (fun hn => absurd hn hc9) (fun _ => ?_)
        exact Mo_isQuiet_n58_l h hC hX0 hX1
    · refine pw_if_ne 58 (px_at td_Mo_isQuiet 27 rfl) (by decide) (fun _ => ?_) (fun hn => absurd hn hc10)
      exact Mo_isQuiet_n58_l h hC hX0 hX1
def Mo_isQuiet_L27 (σ : pxS) : (Int32) → Option ((Int32) ⊕ (Nat)) := fun s => Mo_isQuiet_n27 σ s
set_option maxRecDepth 100000 in
theorem Mo_isQuiet_L27_l {l : Launch} {ids : List pxI} {Rt : Option pxV → List pxI → pxG → pxS → Prop} {σ : pxS} {n : Nat} {s : Int32} {e : Nat} (h : px_it (Mo_isQuiet_L27 σ) n s = some e) (hX0 : e = 0 → pw l (px_R 2) y_Mo_isQuiet c_Mo_isQuiet 3 (some .boolean) 97 [] [] ids mG σ 0 0 Rt) (hX1 : e = 1 → pw l (px_R 2) y_Mo_isQuiet c_Mo_isQuiet 3 (some .boolean) 105 [] [] ids mG σ 0 0 Rt) : pw l (px_R 2) y_Mo_isQuiet c_Mo_isQuiet 3 (some .boolean) 27 [(0, .inr (some (0, 0, 0))), (1, .inl s)] [] ids mG σ 0 0 Rt := by
  refine px_it_rule (f := Mo_isQuiet_L27 σ) (C := fun s => pw l (px_R 2) y_Mo_isQuiet c_Mo_isQuiet 3 (some .boolean) 27 [(0, .inr (some (0, 0, 0))), (1, .inl s)] [] ids mG σ 0 0 Rt) (X := fun e => (e = 0 → pw l (px_R 2) y_Mo_isQuiet c_Mo_isQuiet 3 (some .boolean) 97 [] [] ids mG σ 0 0 Rt) ∧ (e = 1 → pw l (px_R 2) y_Mo_isQuiet c_Mo_isQuiet 3 (some .boolean) 105 [] [] ids mG σ 0 0 Rt)) ?_ ?_ n s e h ⟨hX0, hX1⟩
  · intro s s1 hf hC
    exact Mo_isQuiet_n27_l hf (fun s2 hs => by cases hs; exact hC) (fun e he ht => by cases he) (fun e he ht => by cases he)
  · intro s e hf hX
    exact Mo_isQuiet_n27_l hf (fun s2 hs => by cases hs) (fun e1 he ht => by cases he; exact hX.1 ht) (fun e1 he ht => by cases he; exact hX.2 ht)
def F_Mo_isQuiet (σ : pxS)  : Option (Int32) :=
  (if (σ (1, 28, 0) 183) = 1 then Mo_isQuiet_n23 σ  else (if (σ (1, 28, 0) 169) ≤ 0 then px_b1 (px_it (Mo_isQuiet_L27 σ) px_N 0) fun e12 =>
  (if e12 = 0 then some (0) else some (1)) else Mo_isQuiet_n23 σ ))
set_option maxRecDepth 100000 in
theorem e_Mo_isQuiet {l : Launch} {ids : List pxI} {Rt : Option pxV → List pxI → pxG → pxS → Prop} {σ : pxS}  {res : Int32} (h : F_Mo_isQuiet σ  = some res) (hR : Rt (some (.inl res)) ids mG σ) : pw l (px_R 2) y_Mo_isQuiet c_Mo_isQuiet 3 (some .boolean) 0 [(0, .inr (some (0, 0, 0)))] [] ids mG σ 0 0 Rt := by
  unfold F_Mo_isQuiet at h
  refine pw_aload_n 0 (px_at td_Mo_isQuiet 0 rfl) rfl rfl ?_
  refine pw_getf (v := .inr (some (1, 28, 0))) (px_at td_Mo_isQuiet 1 rfl) lf_Mo_63 rfl rfl rfl ?_
  refine pw_sipush (v := 183) (px_at td_Mo_isQuiet 2 rfl) (by decide) ?_
  refine pw_ial (px_at td_Mo_isQuiet 3 rfl) rfl (px_inL (by decide) px_z183 (by decide)) px_z183 ?_
  refine pw_iconst (v := 1) (px_at td_Mo_isQuiet 4 rfl) (by decide) ?_
  rcases px_ite h with ⟨hc14, h⟩ | ⟨hc14, h⟩
  · refine pw_icmp_eq 23 (px_at td_Mo_isQuiet 5 rfl) (by decide) (fun _ => ?_) (fun hn => absurd hc14 hn)
    refine pw_L [] [] rfl ?_
    exact Mo_isQuiet_n23_l h hR
  · refine pw_icmp_eq 23 (px_at td_Mo_isQuiet 5 rfl) (by decide) (fun hn => absurd hn hc14) (fun _ => ?_)
    refine pw_aload_n 0 (px_at td_Mo_isQuiet 6 rfl) rfl rfl ?_
    refine pw_getf (v := .inr (some (1, 28, 0))) (px_at td_Mo_isQuiet 7 rfl) lf_Mo_63 rfl rfl rfl ?_
    refine pw_sipush (v := 169) (px_at td_Mo_isQuiet 8 rfl) (by decide) ?_
    refine pw_ial (px_at td_Mo_isQuiet 9 rfl) rfl (px_inL (by decide) px_z169 (by decide)) px_z169 ?_
    rcases px_ite h with ⟨hc13, h⟩ | ⟨hc13, h⟩
    · refine pw_if_le 25 (px_at td_Mo_isQuiet 10 rfl) (by decide) (fun _ => ?_) (fun hn => absurd hc13 hn)
      refine pw_iconst (v := 0) (px_at td_Mo_isQuiet 13 rfl) (by decide) ?_
      refine pw_istore_n (L' := [(1, .inl 0), (0, .inr (some (0, 0, 0)))]) (px_at td_Mo_isQuiet 14 rfl) rfl (by decide) rfl ?_
      obtain ⟨e12, he12, h⟩ := px_b1_e h
      refine pw_L [(0, .inr (some (0, 0, 0))), (1, .inl 0)] [1, 0] rfl ?_
      refine Mo_isQuiet_L27_l he12 (fun ht0 => ?_) (fun ht1 => ?_)
      · rw [if_pos ht0] at h
        refine pw_iconst (v := 0) (px_at td_Mo_isQuiet 56 rfl) (by decide) ?_
        obtain rfl := Option.some.inj h
        exact pw_zret (px_at td_Mo_isQuiet 57 rfl) rfl (by decide) (Nat.le_refl 0) (Nat.le_refl 0) hR
      · rw [if_neg (by rw [ht1]; decide)] at h
        refine pw_iconst (v := 1) (px_at td_Mo_isQuiet 60 rfl) (by decide) ?_
        obtain rfl := Option.some.inj h
        exact pw_zret (px_at td_Mo_isQuiet 61 rfl) rfl (by decide) (Nat.le_refl 0) (Nat.le_refl 0) hR
    · refine pw_if_le 25 (px_at td_Mo_isQuiet 10 rfl) (by decide) (fun hn => absurd hn hc13) (fun _ => ?_)
      refine pw_L [] [] rfl ?_
      exact Mo_isQuiet_n23_l h hR
theorem k_Mo_isQuiet {l : Launch} {ids : List pxI} {σ : pxS}  {res : Int32} (h : F_Mo_isQuiet σ  = some res) : pm l y_Mo_isQuiet c_Mo_isQuiet 3 (some .boolean) (px_R 2) [.inr (some (0, 0, 0))] ids mG σ (px_r (some (.inl res)) ids mG σ) :=
  pm_ofF (by decide +kernel) (Nat.le_of_ble_eq_true rfl) (e_Mo_isQuiet h ⟨rfl, rfl, rfl, rfl⟩)
/-! Mo_quiet -/
def Mo_quiet_n20 (σ : pxS) (v1 : Int32) : Option ((Int32 × pxS) ⊕ (Int32 × pxS)) :=
  (if 300 ≤ v1 then some (.inr (v1, σ)) else px_b1 (F_Mo_isQuiet σ ) fun r3 =>
  (if r3 = 0 then px_b1 (F_Mo_tickGoes σ ) fun σ4 =>
  some (.inl ((v1 + 1), σ4)) else some (.inr (v1, σ))))
set_option maxRecDepth 100000 in
theorem Mo_quiet_n20_l {l : Launch} {ids : List pxI} {Rt : Option pxV → List pxI → pxG → pxS → Prop} {σ : pxS} {v1 : Int32} {o : (Int32 × pxS) ⊕ (Int32 × pxS)} (h : Mo_quiet_n20 σ v1 = some o) (hC : ∀ s, o = .inl s → pw l (px_R 9) y_Mo_quiet c_Mo_quiet 3 (some .int) 20 [(0, .inr (some (0, 0, 0))), (1, .inl s.1)] [] ids mG s.2 0 0 Rt) (hX0 : ∀ e, o = .inr e → pw l (px_R 9) y_Mo_quiet c_Mo_quiet 3 (some .int) 44 [(0, .inr (some (0, 0, 0))), (1, .inl e.1)] [] ids mG e.2 0 0 Rt) : pw l (px_R 9) y_Mo_quiet c_Mo_quiet 3 (some .int) 20 [(0, .inr (some (0, 0, 0))), (1, .inl v1)] [] ids mG σ 0 0 Rt := by
  unfold Mo_quiet_n20 at h
  refine pw_iload_n 1 (px_at td_Mo_quiet 12 rfl) rfl rfl ?_
  refine pw_sipush (v := 300) (px_at td_Mo_quiet 13 rfl) (by decide) ?_
  rcases px_ite h with ⟨hc6, h⟩ | ⟨hc6, h⟩
  · refine pw_icmp_ge 44 (px_at td_Mo_quiet 14 rfl) (by decide) (fun _ => ?_) (fun hn => absurd hc6 hn)
    exact hX0 (v1, σ) (Option.some.inj h).symm
  · refine pw_icmp_ge 44 (px_at td_Mo_quiet 14 rfl) (by decide) (fun hn => absurd hn hc6) (fun _ => ?_)
    refine pw_aload_n 0 (px_at td_Mo_quiet 15 rfl) rfl rfl ?_
    obtain ⟨r3, hk3, h⟩ := px_b1_e h
    refine pw_cV1 (0, 0, 0) [] [] (px_at td_Mo_quiet 16 rfl) lV_Mo_332 rfl rfl rfl (Nat.le_of_ble_eq_true rfl) (by decide) (k_Mo_isQuiet hk3) ?_
    rcases px_ite h with ⟨hc5, h⟩ | ⟨hc5, h⟩
    · refine pw_if_ne 44 (px_at td_Mo_quiet 17 rfl) (by decide) (fun hn => absurd hc5 hn) (fun _ => ?_)
      refine pw_aload_n 0 (px_at td_Mo_quiet 18 rfl) rfl rfl ?_
      obtain ⟨σ4, hk4, h⟩ := px_b1_e h
      refine pw_cV0 (0, 0, 0) [] [] (px_at td_Mo_quiet 19 rfl) lV_Mo_297 rfl rfl rfl (Nat.le_of_ble_eq_true rfl) (by decide) (k_Mo_tickGoes hk4) ?_
      refine pw_iinc (q := 1) (v := (v1 + 1)) (L' := [(1, .inl (v1 + 1)), (0, .inr (some (0, 0, 0)))]) (px_at td_Mo_quiet 20 rfl) rfl rfl (by decide) rfl ?_
      refine pw_goto 20 (px_at td_Mo_quiet 21 rfl) (by decide) ?_
      refine pw_L [(0, .inr (some (0, 0, 0))), (1, .inl (v1 + 1))] [1, 0] rfl ?_
      exact hC ((v1 + 1), σ4) (Option.some.inj h).symm
    · refine pw_if_ne 44 (px_at td_Mo_quiet 17 rfl) (by decide) (fun _ => ?_) (fun hn => absurd hn hc5)
      exact hX0 (v1, σ) (Option.some.inj h).symm
def Mo_quiet_L20  : (Int32 × pxS) → Option ((Int32 × pxS) ⊕ (Int32 × pxS)) := fun s => Mo_quiet_n20 s.2 s.1
set_option maxRecDepth 100000 in
theorem Mo_quiet_L20_l {l : Launch} {ids : List pxI} {Rt : Option pxV → List pxI → pxG → pxS → Prop}  {n : Nat} {s : Int32 × pxS} {e : Int32 × pxS} (h : px_it (Mo_quiet_L20 ) n s = some e) (hX0 : pw l (px_R 9) y_Mo_quiet c_Mo_quiet 3 (some .int) 44 [(0, .inr (some (0, 0, 0))), (1, .inl e.1)] [] ids mG e.2 0 0 Rt) : pw l (px_R 9) y_Mo_quiet c_Mo_quiet 3 (some .int) 20 [(0, .inr (some (0, 0, 0))), (1, .inl s.1)] [] ids mG s.2 0 0 Rt := by
  refine px_it_rule (f := Mo_quiet_L20 ) (C := fun s => pw l (px_R 9) y_Mo_quiet c_Mo_quiet 3 (some .int) 20 [(0, .inr (some (0, 0, 0))), (1, .inl s.1)] [] ids mG s.2 0 0 Rt) (X := fun e => (pw l (px_R 9) y_Mo_quiet c_Mo_quiet 3 (some .int) 44 [(0, .inr (some (0, 0, 0))), (1, .inl e.1)] [] ids mG e.2 0 0 Rt)) ?_ ?_ n s e h hX0
  · intro s s1 hf hC
    exact Mo_quiet_n20_l hf (fun s2 hs => by cases hs; exact hC) (fun e he => by cases he)
  · intro s e hf hX
    exact Mo_quiet_n20_l hf (fun s2 hs => by cases hs) (fun e1 he => by cases he; exact hX)
def F_Mo_quiet (σ : pxS)  : Option (Int32 × pxS) :=
  px_l (px_up σ (0, 0, 0) 0 0) fun σ1 =>
  px_b1 (F_Mo_copies_28_29 σ1 0 0) fun σ2 =>
  px_b1 (px_it (Mo_quiet_L20 ) px_N (0, σ2)) fun e7 =>
  px_b1 (F_Mo_isQuiet e7.2 ) fun r8 =>
  px_b1 (F_Mo_copies_29_28 e7.2 0 0) fun σ9 =>
  (if r8 = 0 then some ((-2), σ9) else some (e7.1, σ9))
set_option maxRecDepth 100000 in
theorem e_Mo_quiet {l : Launch} {ids : List pxI} {Rt : Option pxV → List pxI → pxG → pxS → Prop} {σ : pxS}  {res : Int32 × pxS} (h : F_Mo_quiet σ  = some res) (hR : Rt (some (.inl res.1)) ids mG res.2) : pw l (px_R 9) y_Mo_quiet c_Mo_quiet 3 (some .int) 0 [(0, .inr (some (0, 0, 0)))] [] ids mG σ 0 0 Rt := by
  unfold F_Mo_quiet at h
  refine pw_aload_n 0 (px_at td_Mo_quiet 0 rfl) rfl rfl ?_
  refine pw_iconst (v := 0) (px_at td_Mo_quiet 1 rfl) (by decide) ?_
  obtain ⟨σ1, hσ1, h⟩ := px_l_e h
  refine pw_puti (px_at td_Mo_quiet 2 rfl) lw_Mo_99 rfl rfl (pw_s hσ1 ?_)
  refine pw_aload_n 0 (px_at td_Mo_quiet 3 rfl) rfl rfl ?_
  refine pw_getf (v := .inr (some (1, 28, 0))) (px_at td_Mo_quiet 4 rfl) lf_Mo_63 rfl rfl rfl ?_
  refine pw_iconst (v := 0) (px_at td_Mo_quiet 5 rfl) (by decide) ?_
  refine pw_aload_n 0 (px_at td_Mo_quiet 6 rfl) rfl rfl ?_
  refine pw_getf (v := .inr (some (1, 29, 0))) (px_at td_Mo_quiet 7 rfl) lf_Mo_66 rfl rfl rfl ?_
  refine pw_iconst (v := 0) (px_at td_Mo_quiet 8 rfl) (by decide) ?_
  obtain ⟨σ2, hk2, h⟩ := px_b1_e h
  refine pw_cS0 [.inr (some (1, 28, 0)), .inl 0, .inr (some (1, 29, 0)), .inl 0] [] (px_at td_Mo_quiet 9 rfl) lS_Mo_226 rfl rfl (Nat.le_of_ble_eq_true rfl) (by decide) (k_Mo_copies_28_29 hk2) ?_
  refine pw_iconst (v := 0) (px_at td_Mo_quiet 10 rfl) (by decide) ?_
  refine pw_istore_n (L' := [(1, .inl 0), (0, .inr (some (0, 0, 0)))]) (px_at td_Mo_quiet 11 rfl) rfl (by decide) rfl ?_
  obtain ⟨e7, he7, h⟩ := px_b1_e h
  refine pw_L [(0, .inr (some (0, 0, 0))), (1, .inl 0)] [1, 0] rfl ?_
  refine Mo_quiet_L20_l he7 ?_
  refine pw_aload_n 0 (px_at td_Mo_quiet 22 rfl) rfl rfl ?_
  obtain ⟨r8, hk8, h⟩ := px_b1_e h
  refine pw_cV1 (0, 0, 0) [] [] (px_at td_Mo_quiet 23 rfl) lV_Mo_332 rfl rfl rfl (Nat.le_of_ble_eq_true rfl) (by decide) (k_Mo_isQuiet hk8) ?_
  refine pw_istore_n (L' := [(2, .inl r8), (0, .inr (some (0, 0, 0))), (1, .inl e7.1)]) (px_at td_Mo_quiet 24 rfl) rfl (by decide) rfl ?_
  refine pw_aload_n 1 (px_at td_Mo_quiet 25 rfl) rfl rfl ?_
  refine pw_getf (v := .inr (some (1, 29, 0))) (px_at td_Mo_quiet 26 rfl) lf_Mo_66 rfl rfl rfl ?_
  refine pw_iconst (v := 0) (px_at td_Mo_quiet 27 rfl) (by decide) ?_
  refine pw_aload_n 1 (px_at td_Mo_quiet 28 rfl) rfl rfl ?_
  refine pw_getf (v := .inr (some (1, 28, 0))) (px_at td_Mo_quiet 29 rfl) lf_Mo_63 rfl rfl rfl ?_
  refine pw_iconst (v := 0) (px_at td_Mo_quiet 30 rfl) (by decide) ?_
  obtain ⟨σ9, hk9, h⟩ := px_b1_e h
  refine pw_cS0 [.inr (some (1, 29, 0)), .inl 0, .inr (some (1, 28, 0)), .inl 0] [] (px_at td_Mo_quiet 31 rfl) lS_Mo_226 rfl rfl (Nat.le_of_ble_eq_true rfl) (by decide) (k_Mo_copies_29_28 hk9) ?_
  refine pw_iload_n 0 (px_at td_Mo_quiet 32 rfl) rfl rfl ?_
  rcases px_ite h with ⟨hc10, h⟩ | ⟨hc10, h⟩
  · refine pw_if_eq 70 (px_at td_Mo_quiet 33 rfl) (by decide) (fun _ => ?_) (fun hn => absurd hc10 hn)
    refine pw_bipush (v := (-2)) (px_at td_Mo_quiet 36 rfl) (by decide) ?_
    obtain rfl := Option.some.inj h
    exact pw_iret (px_at td_Mo_quiet 37 rfl) rfl (Nat.le_refl 0) (Nat.le_refl 0) hR
  · refine pw_if_eq 70 (px_at td_Mo_quiet 33 rfl) (by decide) (fun hn => absurd hn hc10) (fun _ => ?_)
    refine pw_iload_n 2 (px_at td_Mo_quiet 34 rfl) rfl rfl ?_
    refine pw_goto 72 (px_at td_Mo_quiet 35 rfl) (by decide) ?_
    obtain rfl := Option.some.inj h
    exact pw_iret (px_at td_Mo_quiet 37 rfl) rfl (Nat.le_refl 0) (Nat.le_refl 0) hR
theorem k_Mo_quiet {l : Launch} {ids : List pxI} {σ : pxS}  {res : Int32 × pxS} (h : F_Mo_quiet σ  = some res) : pm l y_Mo_quiet c_Mo_quiet 3 (some .int) (px_R 9) [.inr (some (0, 0, 0))] ids mG σ (px_r (some (.inl res.1)) ids mG res.2) :=
  pm_ofF (by decide +kernel) (Nat.le_of_ble_eq_true rfl) (e_Mo_quiet h ⟨rfl, rfl, rfl, rfl⟩)
/-! Mo_leastLimit -/
def Mo_leastLimit_n95 (σ : pxS) (v1 : Int32) (v2 : Int32) (v4 : Int32) : Option ((Int32 × Int32 × Int32 × pxS) ⊕ (Int32 × Int32 × pxS)) :=
  some (.inl (v2, 1, (v4 + 1), σ))
set_option maxRecDepth 100000 in
theorem Mo_leastLimit_n95_l {l : Launch} {ids : List pxI} {Rt : Option pxV → List pxI → pxG → pxS → Prop} {σ : pxS} {v1 : Int32} {v2 : Int32} {v4 : Int32} {o : (Int32 × Int32 × Int32 × pxS) ⊕ (Int32 × Int32 × pxS)} (h : Mo_leastLimit_n95 σ v1 v2 v4 = some o) (hC : ∀ s, o = .inl s → pw l (px_R 9) y_Mo_leastLimit c_Mo_leastLimit 5 (some .int) 49 [(0, .inr (some (0, 0, 0))), (1, .inl v1), (2, .inl s.1), (3, .inl s.2.1), (4, .inl s.2.2.1)] [] ids mG s.2.2.2 0 0 Rt) (hX0 : ∀ e, o = .inr e → pw l (px_R 9) y_Mo_leastLimit c_Mo_leastLimit 5 (some .int) 107 [(0, .inr (some (0, 0, 0))), (2, .inl e.1), (3, .inl e.2.1)] [] ids mG e.2.2 0 0 Rt) : pw l (px_R 9) y_Mo_leastLimit c_Mo_leastLimit 5 (some .int) 95 [(0, .inr (some (0, 0, 0))), (1, .inl v1), (2, .inl v2), (4, .inl v4)] [] ids mG σ 0 0 Rt := by
  unfold Mo_leastLimit_n95 at h
  refine pw_iconst (v := 1) (px_at td_Mo_leastLimit 59 rfl) (by decide) ?_
  refine pw_goto 100 (px_at td_Mo_leastLimit 60 rfl) (by decide) ?_
  refine pw_istore_n (L' := [(3, .inl 1), (0, .inr (some (0, 0, 0))), (1, .inl v1), (2, .inl v2), (4, .inl v4)]) (px_at td_Mo_leastLimit 62 rfl) rfl (by decide) rfl ?_
  refine pw_iinc (q := 4) (v := (v4 + 1)) (L' := [(4, .inl (v4 + 1)), (3, .inl 1), (0, .inr (some (0, 0, 0))), (1, .inl v1), (2, .inl v2)]) (px_at td_Mo_leastLimit 63 rfl) rfl rfl (by decide) rfl ?_
  refine pw_goto 49 (px_at td_Mo_leastLimit 64 rfl) (by decide) ?_
  refine pw_L [(0, .inr (some (0, 0, 0))), (1, .inl v1), (2, .inl v2), (3, .inl 1), (4, .inl (v4 + 1))] [2, 3, 4, 1, 0] rfl ?_
  exact hC (v2, 1, (v4 + 1), σ) (Option.some.inj h).symm
def Mo_leastLimit_n49 (σ : pxS) (v1 : Int32) (v2 : Int32) (v3 : Int32) (v4 : Int32) : Option ((Int32 × Int32 × Int32 × pxS) ⊕ (Int32 × Int32 × pxS)) :=
  (if 100 ≤ v4 then some (.inr (v2, v3, σ)) else px_b1 (F_Mo_tickGoes σ ) fun σ6 =>
  px_gd ((13 * v1) + 2) 308 (px_b1 (F_Mo_greater σ6 v2 (σ6 (1, 28, 0) ((13 * v1) + 2).toNatClampNeg)) fun r8 =>
  (if v3 = 0 then px_gd ((13 * v1) + 3) 308 ((if (σ6 (1, 28, 0) ((13 * v1) + 3).toNatClampNeg) = 1 then Mo_leastLimit_n95 σ6 v1 r8 v4 else some (.inl (r8, 0, (v4 + 1), σ6)))) else Mo_leastLimit_n95 σ6 v1 r8 v4)))
set_option maxRecDepth 100000 in
theorem Mo_leastLimit_n49_l {l : Launch} {ids : List pxI} {Rt : Option pxV → List pxI → pxG → pxS → Prop} {σ : pxS} {v1 : Int32} {v2 : Int32} {v3 : Int32} {v4 : Int32} {o : (Int32 × Int32 × Int32 × pxS) ⊕ (Int32 × Int32 × pxS)} (h : Mo_leastLimit_n49 σ v1 v2 v3 v4 = some o) (hC : ∀ s, o = .inl s → pw l (px_R 9) y_Mo_leastLimit c_Mo_leastLimit 5 (some .int) 49 [(0, .inr (some (0, 0, 0))), (1, .inl v1), (2, .inl s.1), (3, .inl s.2.1), (4, .inl s.2.2.1)] [] ids mG s.2.2.2 0 0 Rt) (hX0 : ∀ e, o = .inr e → pw l (px_R 9) y_Mo_leastLimit c_Mo_leastLimit 5 (some .int) 107 [(0, .inr (some (0, 0, 0))), (2, .inl e.1), (3, .inl e.2.1)] [] ids mG e.2.2 0 0 Rt) : pw l (px_R 9) y_Mo_leastLimit c_Mo_leastLimit 5 (some .int) 49 [(0, .inr (some (0, 0, 0))), (1, .inl v1), (2, .inl v2), (3, .inl v3), (4, .inl v4)] [] ids mG σ 0 0 Rt := by
  unfold Mo_leastLimit_n49 at h
  refine pw_iload 4 (px_at td_Mo_leastLimit 31 rfl) rfl ?_
  refine pw_bipush (v := 100) (px_at td_Mo_leastLimit 32 rfl) (by decide) ?_
  rcases px_ite h with ⟨hc12, h⟩ | ⟨hc12, h⟩
  · refine pw_icmp_ge 107 (px_at td_Mo_leastLimit 33 rfl) (by decide) (fun _ => ?_) (fun hn => absurd hc12 hn)
    refine pw_L [(0, .inr (some (0, 0, 0))), (2, .inl v2), (3, .inl v3)] [0, 2, 3] rfl ?_
    exact hX0 (v2, v3, σ) (Option.some.inj h).symm
  · refine pw_icmp_ge 107 (px_at td_Mo_leastLimit 33 rfl) (by decide) (fun hn => absurd hn hc12) (fun _ => ?_)
    refine pw_aload_n 0 (px_at td_Mo_leastLimit 34 rfl) rfl rfl ?_
    obtain ⟨σ6, hk6, h⟩ := px_b1_e h
    refine pw_cV0 (0, 0, 0) [] [] (px_at td_Mo_leastLimit 35 rfl) lV_Mo_297 rfl rfl rfl (Nat.le_of_ble_eq_true rfl) (by decide) (k_Mo_tickGoes hk6) ?_
    refine pw_iload_n 2 (px_at td_Mo_leastLimit 36 rfl) rfl rfl ?_
    refine pw_aload_n 0 (px_at td_Mo_leastLimit 37 rfl) rfl rfl ?_
    refine pw_getf (v := .inr (some (1, 28, 0))) (px_at td_Mo_leastLimit 38 rfl) lf_Mo_63 rfl rfl rfl ?_
    refine pw_bipush (v := 13) (px_at td_Mo_leastLimit 39 rfl) (by decide) ?_
    refine pw_iload_n 1 (px_at td_Mo_leastLimit 40 rfl) rfl rfl ?_
    refine pw_imul (px_at td_Mo_leastLimit 41 rfl) ?_
    refine pw_iconst (v := 2) (px_at td_Mo_leastLimit 42 rfl) (by decide) ?_
    refine pw_iadd (px_at td_Mo_leastLimit 43 rfl) ?_
    obtain ⟨hi7, h⟩ := px_gd_e h
    refine pw_ial (px_at td_Mo_leastLimit 44 rfl) rfl hi7 rfl ?_
    obtain ⟨r8, hk8, h⟩ := px_b1_e h
    refine pw_cS1 [.inl v2, .inl (σ6 (1, 28, 0) ((13 * v1) + 2).toNatClampNeg)] [] (px_at td_Mo_leastLimit 45 rfl) lS_Mo_323 rfl rfl (Nat.le_of_ble_eq_true rfl) (by decide) (k_Mo_greater hk8) ?_
    refine pw_istore_n (L' := [(2, .inl r8), (0, .inr (some (0, 0, 0))), (1, .inl v1), (3, .inl v3), (4, .inl v4)]) (px_at td_Mo_leastLimit 46 rfl) rfl (by decide) rfl ?_
    refine pw_iload_n 3 (px_at td_Mo_leastLimit 47 rfl) rfl rfl ?_
    rcases px_ite h with ⟨hc11, h⟩ | ⟨hc11, h⟩
    · refine pw_if_ne 95 (px_at td_Mo_leastLimit 48 rfl) (by decide) (fun hn => absurd hc11 hn) (fun _ => ?_)
      refine pw_aload_n 1 (px_at td_Mo_leastLimit 49 rfl) rfl rfl ?_
      refine pw_getf (v := .inr (some (1, 28, 0))) (px_at td_Mo_leastLimit 50 rfl) lf_Mo_63 rfl rfl rfl ?_
      refine pw_bipush (v := 13) (px_at td_Mo_leastLimit 51 rfl) (by decide) ?_
      refine pw_iload_n 2 (px_at td_Mo_leastLimit 52 rfl) rfl rfl ?_
      refine pw_imul (px_at td_Mo_leastLimit 53 rfl) ?_
      refine pw_iconst (v := 3) (px_at td_Mo_leastLimit 54 rfl) (by decide) ?_
      refine pw_iadd (px_at td_Mo_leastLimit 55 rfl) ?_
      obtain ⟨hi9, h⟩ := px_gd_e h
      refine pw_ial (px_at td_Mo_leastLimit 56 rfl) rfl hi9 rfl ?_
      refine pw_iconst (v := 1) (px_at td_Mo_leastLimit 57 rfl) (by decide) ?_
      rcases px_ite h with ⟨hc10, h⟩ | ⟨hc10, h⟩
      · refine pw_icmp_ne 99 (px_at td_Mo_leastLimit 58 rfl) (by decide) (fun hn => absurd hc10 hn) (fun _ => ?_)
        refine pw_L [(0, .inr (some (0, 0, 0))), (1, .inl v1), (2, .inl r8), (4, .inl v4)] [1, 2, 0, 4] rfl ?_
        exact Mo_leastLimit_n95_l h hC hX0
      · refine pw_icmp_ne 99 (px_at td_Mo_leastLimit 58 rfl) (by decide) (fun _ => ?_) (fun hn => absurd hn hc10)
        refine pw_iconst (v := 0) (px_at td_Mo_leastLimit 61 rfl) (by decide) ?_
        refine pw_istore_n (L' := [(3, .inl 0), (2, .inl r8), (0, .inr (some (0, 0, 0))), (1, .inl v1), (4, .inl v4)]) (px_at td_Mo_leastLimit 62 rfl) rfl (by decide) rfl ?_
        refine pw_iinc (q := 4) (v := (v4 + 1)) (L' := [(4, .inl (v4 + 1)), (3, .inl 0), (2, .inl r8), (0, .inr (some (0, 0, 0))), (1, .inl v1)]) (px_at td_Mo_leastLimit 63 rfl) rfl rfl (by decide) rfl ?_
        refine pw_goto 49 (px_at td_Mo_leastLimit 64 rfl) (by decide) ?_
        refine pw_L [(0, .inr (some (0, 0, 0))), (1, .inl v1), (2, .inl r8), (3, .inl 0), (4, .inl (v4 + 1))] [3, 4, 2, 1, 0] rfl ?_
        exact hC (r8, 0, (v4 + 1), σ6) (Option.some.inj h).symm
    · refine pw_if_ne 95 (px_at td_Mo_leastLimit 48 rfl) (by decide) (fun _ => ?_) (fun hn => absurd hn hc11)
      refine pw_L [(0, .inr (some (0, 0, 0))), (1, .inl v1), (2, .inl r8), (4, .inl v4)] [1, 2, 0, 4] rfl ?_
      exact Mo_leastLimit_n95_l h hC hX0
def Mo_leastLimit_L49 (v1 : Int32) : (Int32 × Int32 × Int32 × pxS) → Option ((Int32 × Int32 × Int32 × pxS) ⊕ (Int32 × Int32 × pxS)) := fun s => Mo_leastLimit_n49 s.2.2.2 v1 s.1 s.2.1 s.2.2.1
set_option maxRecDepth 100000 in
theorem Mo_leastLimit_L49_l {l : Launch} {ids : List pxI} {Rt : Option pxV → List pxI → pxG → pxS → Prop} {v1 : Int32} {n : Nat} {s : Int32 × Int32 × Int32 × pxS} {e : Int32 × Int32 × pxS} (h : px_it (Mo_leastLimit_L49 v1) n s = some e) (hX0 : pw l (px_R 9) y_Mo_leastLimit c_Mo_leastLimit 5 (some .int) 107 [(0, .inr (some (0, 0, 0))), (2, .inl e.1), (3, .inl e.2.1)] [] ids mG e.2.2 0 0 Rt) : pw l (px_R 9) y_Mo_leastLimit c_Mo_leastLimit 5 (some .int) 49 [(0, .inr (some (0, 0, 0))), (1, .inl v1), (2, .inl s.1), (3, .inl s.2.1), (4, .inl s.2.2.1)] [] ids mG s.2.2.2 0 0 Rt := by
  refine px_it_rule (f := Mo_leastLimit_L49 v1) (C := fun s => pw l (px_R 9) y_Mo_leastLimit c_Mo_leastLimit 5 (some .int) 49 [(0, .inr (some (0, 0, 0))), (1, .inl v1), (2, .inl s.1), (3, .inl s.2.1), (4, .inl s.2.2.1)] [] ids mG s.2.2.2 0 0 Rt) (X := fun e => (pw l (px_R 9) y_Mo_leastLimit c_Mo_leastLimit 5 (some .int) 107 [(0, .inr (some (0, 0, 0))), (2, .inl e.1), (3, .inl e.2.1)] [] ids mG e.2.2 0 0 Rt)) ?_ ?_ n s e h hX0
  · intro s s1 hf hC
    exact Mo_leastLimit_n49_l hf (fun s2 hs => by cases hs; exact hC) (fun e he => by cases he)
  · intro s e hf hX
    exact Mo_leastLimit_n49_l hf (fun s2 hs => by cases hs) (fun e1 he => by cases he; exact hX)
def F_Mo_leastLimit (σ : pxS) (v1 : Int32) : Option (Int32 × pxS) :=
  px_l (px_up σ (0, 0, 0) 0 0) fun σ1 =>
  px_b1 (F_Mo_isRail σ1 v1) fun r2 =>
  (if r2 = 0 then some ((-1), σ1) else px_b1 (F_Mo_copies_28_29 σ1 0 0) fun σ3 =>
  px_gd ((13 * v1) + 7) 308 (px_l (px_up σ3 (1, 28, 0) ((13 * v1) + 7).toNatClampNeg 99999) fun σ5 =>
  px_b1 (px_it (Mo_leastLimit_L49 v1) px_N (1, 0, 0, σ5)) fun e13 =>
  px_b1 (F_Mo_copies_29_28 e13.2.2 0 0) fun σ14 =>
  (if e13.2.1 = 0 then some (e13.1, σ14) else some ((-2), σ14))))
set_option maxRecDepth 100000 in
theorem e_Mo_leastLimit {l : Launch} {ids : List pxI} {Rt : Option pxV → List pxI → pxG → pxS → Prop} {σ : pxS} {v1 : Int32} {res : Int32 × pxS} (h : F_Mo_leastLimit σ v1 = some res) (hR : Rt (some (.inl res.1)) ids mG res.2) : pw l (px_R 9) y_Mo_leastLimit c_Mo_leastLimit 5 (some .int) 0 [(0, .inr (some (0, 0, 0))), (1, .inl v1)] [] ids mG σ 0 0 Rt := by
  unfold F_Mo_leastLimit at h
  refine pw_aload_n 0 (px_at td_Mo_leastLimit 0 rfl) rfl rfl ?_
  refine pw_iconst (v := 0) (px_at td_Mo_leastLimit 1 rfl) (by decide) ?_
  obtain ⟨σ1, hσ1, h⟩ := px_l_e h
  refine pw_puti (px_at td_Mo_leastLimit 2 rfl) lw_Mo_99 rfl rfl (pw_s hσ1 ?_)
  refine pw_aload_n 0 (px_at td_Mo_leastLimit 3 rfl) rfl rfl ?_
  refine pw_iload_n 1 (px_at td_Mo_leastLimit 4 rfl) rfl rfl ?_
  obtain ⟨r2, hk2, h⟩ := px_b1_e h
  refine pw_cV1 (0, 0, 0) [.inl v1] [] (px_at td_Mo_leastLimit 5 rfl) lV_Mo_300 rfl rfl rfl (Nat.le_of_ble_eq_true rfl) (by decide) (k_Mo_isRail hk2) ?_
  rcases px_ite h with ⟨hc16, h⟩ | ⟨hc16, h⟩
  · refine pw_if_ne 15 (px_at td_Mo_leastLimit 6 rfl) (by decide) (fun hn => absurd hc16 hn) (fun _ => ?_)
    refine pw_iconst (v := (-1)) (px_at td_Mo_leastLimit 7 rfl) (by decide) ?_
    obtain rfl := Option.some.inj h
    exact pw_iret (px_at td_Mo_leastLimit 8 rfl) rfl (Nat.le_refl 0) (Nat.le_refl 0) hR
  · refine pw_if_ne 15 (px_at td_Mo_leastLimit 6 rfl) (by decide) (fun _ => ?_) (fun hn => absurd hn hc16)
    refine pw_aload_n 0 (px_at td_Mo_leastLimit 9 rfl) rfl rfl ?_
    refine pw_getf (v := .inr (some (1, 28, 0))) (px_at td_Mo_leastLimit 10 rfl) lf_Mo_63 rfl rfl rfl ?_
    refine pw_iconst (v := 0) (px_at td_Mo_leastLimit 11 rfl) (by decide) ?_
    refine pw_aload_n 0 (px_at td_Mo_leastLimit 12 rfl) rfl rfl ?_
    refine pw_getf (v := .inr (some (1, 29, 0))) (px_at td_Mo_leastLimit 13 rfl) lf_Mo_66 rfl rfl rfl ?_
    refine pw_iconst (v := 0) (px_at td_Mo_leastLimit 14 rfl) (by decide) ?_
    obtain ⟨σ3, hk3, h⟩ := px_b1_e h
    refine pw_cS0 [.inr (some (1, 28, 0)), .inl 0, .inr (some (1, 29, 0)), .inl 0] [] (px_at td_Mo_leastLimit 15 rfl) lS_Mo_226 rfl rfl (Nat.le_of_ble_eq_true rfl) (by decide) (k_Mo_copies_28_29 hk3) ?_
    refine pw_aload_n 0 (px_at td_Mo_leastLimit 16 rfl) rfl rfl ?_
    refine pw_getf (v := .inr (some (1, 28, 0))) (px_at td_Mo_leastLimit 17 rfl) lf_Mo_63 rfl rfl rfl ?_
    refine pw_bipush (v := 13) (px_at td_Mo_leastLimit 18 rfl) (by decide) ?_
    refine pw_iload_n 1 (px_at td_Mo_leastLimit 19 rfl) rfl rfl ?_
    refine pw_imul (px_at td_Mo_leastLimit 20 rfl) ?_
    refine pw_bipush (v := 7) (px_at td_Mo_leastLimit 21 rfl) (by decide) ?_
    refine pw_iadd (px_at td_Mo_leastLimit 22 rfl) ?_
    refine pw_ldc (v := 99999) (px_at td_Mo_leastLimit 23 rfl) lc_Mo_184 ?_
    obtain ⟨hi4, h⟩ := px_gd_e h
    obtain ⟨σ5, hσ5, h⟩ := px_l_e h
    refine pw_ias (px_at td_Mo_leastLimit 24 rfl) rfl hi4 rfl hσ5 ?_
    refine pw_iconst (v := 1) (px_at td_Mo_leastLimit 25 rfl) (by decide) ?_
    refine pw_istore_n (L' := [(2, .inl 1), (0, .inr (some (0, 0, 0))), (1, .inl v1)]) (px_at td_Mo_leastLimit 26 rfl) rfl (by decide) rfl ?_
    refine pw_iconst (v := 0) (px_at td_Mo_leastLimit 27 rfl) (by decide) ?_
    refine pw_istore_n (L' := [(3, .inl 0), (2, .inl 1), (0, .inr (some (0, 0, 0))), (1, .inl v1)]) (px_at td_Mo_leastLimit 28 rfl) rfl (by decide) rfl ?_
    refine pw_iconst (v := 0) (px_at td_Mo_leastLimit 29 rfl) (by decide) ?_
    refine pw_istore (L' := [(4, .inl 0), (3, .inl 0), (2, .inl 1), (0, .inr (some (0, 0, 0))), (1, .inl v1)]) (px_at td_Mo_leastLimit 30 rfl) (by decide) rfl ?_
    obtain ⟨e13, he13, h⟩ := px_b1_e h
    refine pw_L [(0, .inr (some (0, 0, 0))), (1, .inl v1), (2, .inl 1), (3, .inl 0), (4, .inl 0)] [3, 4, 2, 1, 0] rfl ?_
    refine Mo_leastLimit_L49_l he13 ?_
    refine pw_aload_n 0 (px_at td_Mo_leastLimit 65 rfl) rfl rfl ?_
    refine pw_getf (v := .inr (some (1, 29, 0))) (px_at td_Mo_leastLimit 66 rfl) lf_Mo_66 rfl rfl rfl ?_
    refine pw_iconst (v := 0) (px_at td_Mo_leastLimit 67 rfl) (by decide) ?_
    refine pw_aload_n 0 (px_at td_Mo_leastLimit 68 rfl) rfl rfl ?_
    refine pw_getf (v := .inr (some (1, 28, 0))) (px_at td_Mo_leastLimit 69 rfl) lf_Mo_63 rfl rfl rfl ?_
    refine pw_iconst (v := 0) (px_at td_Mo_leastLimit 70 rfl) (by decide) ?_
    obtain ⟨σ14, hk14, h⟩ := px_b1_e h
    refine pw_cS0 [.inr (some (1, 29, 0)), .inl 0, .inr (some (1, 28, 0)), .inl 0] [] (px_at td_Mo_leastLimit 71 rfl) lS_Mo_226 rfl rfl (Nat.le_of_ble_eq_true rfl) (by decide) (k_Mo_copies_29_28 hk14) ?_
    refine pw_iload_n 2 (px_at td_Mo_leastLimit 72 rfl) rfl rfl ?_
    rcases px_ite h with ⟨hc15, h⟩ | ⟨hc15, h⟩
    · refine pw_if_eq 129 (px_at td_Mo_leastLimit 73 rfl) (by decide) (fun _ => ?_) (fun hn => absurd hc15 hn)
      refine pw_iload_n 1 (px_at td_Mo_leastLimit 76 rfl) rfl rfl ?_
      obtain rfl := Option.some.inj h
      exact pw_iret (px_at td_Mo_leastLimit 77 rfl) rfl (Nat.le_refl 0) (Nat.le_refl 0) hR
    · refine pw_if_eq 129 (px_at td_Mo_leastLimit 73 rfl) (by decide) (fun hn => absurd hn hc15) (fun _ => ?_)
      refine pw_bipush (v := (-2)) (px_at td_Mo_leastLimit 74 rfl) (by decide) ?_
      refine pw_goto 130 (px_at td_Mo_leastLimit 75 rfl) (by decide) ?_
      obtain rfl := Option.some.inj h
      exact pw_iret (px_at td_Mo_leastLimit 77 rfl) rfl (Nat.le_refl 0) (Nat.le_refl 0) hR
theorem k_Mo_leastLimit {l : Launch} {ids : List pxI} {σ : pxS} {v1 : Int32} {res : Int32 × pxS} (h : F_Mo_leastLimit σ v1 = some res) : pm l y_Mo_leastLimit c_Mo_leastLimit 5 (some .int) (px_R 9) [.inr (some (0, 0, 0)), .inl v1] ids mG σ (px_r (some (.inl res.1)) ids mG res.2) :=
  pm_ofF (by decide +kernel) (Nat.le_of_ble_eq_true rfl) (e_Mo_leastLimit h ⟨rfl, rfl, rfl, rfl⟩)
/-! Mo_ifLoad -/
def Mo_ifLoad_n24 (σ : pxS)  : Option (Int32 × pxS) :=
  some ((-1), σ)
set_option maxRecDepth 100000 in
theorem Mo_ifLoad_n24_l {l : Launch} {ids : List pxI} {Rt : Option pxV → List pxI → pxG → pxS → Prop} {σ : pxS}  {res : Int32 × pxS} (h : Mo_ifLoad_n24 σ  = some res) (hR : Rt (some (.inl res.1)) ids mG res.2) : pw l (px_R 9) y_Mo_ifLoad c_Mo_ifLoad 5 (some .int) 24 [] [] ids mG σ 0 0 Rt := by
  unfold Mo_ifLoad_n24 at h
  refine pw_iconst (v := (-1)) (px_at td_Mo_ifLoad 12 rfl) (by decide) ?_
  obtain rfl := Option.some.inj h
  exact pw_iret (px_at td_Mo_ifLoad 13 rfl) rfl (Nat.le_refl 0) (Nat.le_refl 0) hR
def Mo_ifLoad_n54 (σ : pxS) (v3 : Int32) : Option ((Int32 × pxS) ⊕ (pxS)) :=
  (if 100 ≤ v3 then some (.inr σ) else px_b1 (F_Mo_tickGoes σ ) fun σ6 =>
  some (.inl ((v3 + 1), σ6)))
set_option maxRecDepth 100000 in
theorem Mo_ifLoad_n54_l {l : Launch} {ids : List pxI} {Rt : Option pxV → List pxI → pxG → pxS → Prop} {σ : pxS} {v3 : Int32} {o : (Int32 × pxS) ⊕ (pxS)} (h : Mo_ifLoad_n54 σ v3 = some o) (hC : ∀ s, o = .inl s → pw l (px_R 9) y_Mo_ifLoad c_Mo_ifLoad 5 (some .int) 54 [(0, .inr (some (0, 0, 0))), (3, .inl s.1)] [] ids mG s.2 0 0 Rt) (hX0 : ∀ e, o = .inr e → pw l (px_R 9) y_Mo_ifLoad c_Mo_ifLoad 5 (some .int) 70 [(0, .inr (some (0, 0, 0)))] [] ids mG e 0 0 Rt) : pw l (px_R 9) y_Mo_ifLoad c_Mo_ifLoad 5 (some .int) 54 [(0, .inr (some (0, 0, 0))), (3, .inl v3)] [] ids mG σ 0 0 Rt := by
  unfold Mo_ifLoad_n54 at h
  refine pw_iload_n 1 (px_at td_Mo_ifLoad 32 rfl) rfl rfl ?_
  refine pw_bipush (v := 100) (px_at td_Mo_ifLoad 33 rfl) (by decide) ?_
  rcases px_ite h with ⟨hc7, h⟩ | ⟨hc7, h⟩
  · refine pw_icmp_ge 70 (px_at td_Mo_ifLoad 34 rfl) (by decide) (fun _ => ?_) (fun hn => absurd hc7 hn)
    refine pw_L [(0, .inr (some (0, 0, 0)))] [0] rfl ?_
    exact hX0 σ (Option.some.inj h).symm
  · refine pw_icmp_ge 70 (px_at td_Mo_ifLoad 34 rfl) (by decide) (fun hn => absurd hn hc7) (fun _ => ?_)
    refine pw_aload_n 0 (px_at td_Mo_ifLoad 35 rfl) rfl rfl ?_
    obtain ⟨σ6, hk6, h⟩ := px_b1_e h
    refine pw_cV0 (0, 0, 0) [] [] (px_at td_Mo_ifLoad 36 rfl) lV_Mo_297 rfl rfl rfl (Nat.le_of_ble_eq_true rfl) (by decide) (k_Mo_tickGoes hk6) ?_
    refine pw_iinc (q := 1) (v := (v3 + 1)) (L' := [(3, .inl (v3 + 1)), (0, .inr (some (0, 0, 0)))]) (px_at td_Mo_ifLoad 37 rfl) rfl rfl (by decide) rfl ?_
    refine pw_goto 54 (px_at td_Mo_ifLoad 38 rfl) (by decide) ?_
    refine pw_L [(0, .inr (some (0, 0, 0))), (3, .inl (v3 + 1))] [1, 0] rfl ?_
    exact hC ((v3 + 1), σ6) (Option.some.inj h).symm
def Mo_ifLoad_L54  : (Int32 × pxS) → Option ((Int32 × pxS) ⊕ (pxS)) := fun s => Mo_ifLoad_n54 s.2 s.1
set_option maxRecDepth 100000 in
theorem Mo_ifLoad_L54_l {l : Launch} {ids : List pxI} {Rt : Option pxV → List pxI → pxG → pxS → Prop}  {n : Nat} {s : Int32 × pxS} {e : pxS} (h : px_it (Mo_ifLoad_L54 ) n s = some e) (hX0 : pw l (px_R 9) y_Mo_ifLoad c_Mo_ifLoad 5 (some .int) 70 [(0, .inr (some (0, 0, 0)))] [] ids mG e 0 0 Rt) : pw l (px_R 9) y_Mo_ifLoad c_Mo_ifLoad 5 (some .int) 54 [(0, .inr (some (0, 0, 0))), (3, .inl s.1)] [] ids mG s.2 0 0 Rt := by
  refine px_it_rule (f := Mo_ifLoad_L54 ) (C := fun s => pw l (px_R 9) y_Mo_ifLoad c_Mo_ifLoad 5 (some .int) 54 [(0, .inr (some (0, 0, 0))), (3, .inl s.1)] [] ids mG s.2 0 0 Rt) (X := fun e => (pw l (px_R 9) y_Mo_ifLoad c_Mo_ifLoad 5 (some .int) 70 [(0, .inr (some (0, 0, 0)))] [] ids mG e 0 0 Rt)) ?_ ?_ n s e h hX0
  · intro s s1 hf hC
    exact Mo_ifLoad_n54_l hf (fun s2 hs => by cases hs; exact hC) (fun e he => by cases he)
  · intro s e hf hX
    exact Mo_ifLoad_n54_l hf (fun s2 hs => by cases hs) (fun e1 he => by cases he; exact hX)
def Mo_ifLoad_n118 (σ : pxS) (v3 : Int32) (v4 : Int32) : Option ((Int32 × Int32) ⊕ (Int32)) :=
  some (.inl (v3, (v4 + 1)))
set_option maxRecDepth 100000 in
theorem Mo_ifLoad_n118_l {l : Launch} {ids : List pxI} {Rt : Option pxV → List pxI → pxG → pxS → Prop} {σ : pxS} {v3 : Int32} {v4 : Int32} {o : (Int32 × Int32) ⊕ (Int32)} (h : Mo_ifLoad_n118 σ v3 v4 = some o) (hC : ∀ s, o = .inl s → pw l (px_R 9) y_Mo_ifLoad c_Mo_ifLoad 5 (some .int) 75 [(0, .inr (some (0, 0, 0))), (3, .inl s.1), (4, .inl s.2)] [] ids mG σ 0 0 Rt) (hX0 : ∀ e, o = .inr e → pw l (px_R 9) y_Mo_ifLoad c_Mo_ifLoad 5 (some .int) 124 [(0, .inr (some (0, 0, 0))), (3, .inl e)] [] ids mG σ 0 0 Rt) : pw l (px_R 9) y_Mo_ifLoad c_Mo_ifLoad 5 (some .int) 118 [(0, .inr (some (0, 0, 0))), (3, .inl v3), (4, .inl v4)] [] ids mG σ 0 0 Rt := by
  unfold Mo_ifLoad_n118 at h
  refine pw_iinc (q := 2) (v := (v4 + 1)) (L' := [(4, .inl (v4 + 1)), (0, .inr (some (0, 0, 0))), (3, .inl v3)]) (px_at td_Mo_ifLoad 70 rfl) rfl rfl (by decide) rfl ?_
  refine pw_goto 75 (px_at td_Mo_ifLoad 71 rfl) (by decide) ?_
  refine pw_L [(0, .inr (some (0, 0, 0))), (3, .inl v3), (4, .inl (v4 + 1))] [1, 2, 0] rfl ?_
  exact hC (v3, (v4 + 1)) (Option.some.inj h).symm
def Mo_ifLoad_n75 (σ : pxS) (v3 : Int32) (v4 : Int32) : Option ((Int32 × Int32) ⊕ (Int32)) :=
  px_b1 (F_Mo_rails σ ) fun r9 =>
  (if r9 ≤ v4 then some (.inr v3) else px_gd ((13 * v4) + 5) 308 (px_gd ((13 * v4) + 5) 308 ((if (σ (1, 28, 0) ((13 * v4) + 5).toNatClampNeg) ≤ (σ (1, 29, 0) ((13 * v4) + 5).toNatClampNeg) then Mo_ifLoad_n118 σ v3 v4 else Mo_ifLoad_n118 σ (v3 ||| (1 <<< (v4 &&& 31))) v4))))
set_option maxRecDepth 100000 in
theorem Mo_ifLoad_n75_l {l : Launch} {ids : List pxI} {Rt : Option pxV → List pxI → pxG → pxS → Prop} {σ : pxS} {v3 : Int32} {v4 : Int32} {o : (Int32 × Int32) ⊕ (Int32)} (h : Mo_ifLoad_n75 σ v3 v4 = some o) (hC : ∀ s, o = .inl s → pw l (px_R 9) y_Mo_ifLoad c_Mo_ifLoad 5 (some .int) 75 [(0, .inr (some (0, 0, 0))), (3, .inl s.1), (4, .inl s.2)] [] ids mG σ 0 0 Rt) (hX0 : ∀ e, o = .inr e → pw l (px_R 9) y_Mo_ifLoad c_Mo_ifLoad 5 (some .int) 124 [(0, .inr (some (0, 0, 0))), (3, .inl e)] [] ids mG σ 0 0 Rt) : pw l (px_R 9) y_Mo_ifLoad c_Mo_ifLoad 5 (some .int) 75 [(0, .inr (some (0, 0, 0))), (3, .inl v3), (4, .inl v4)] [] ids mG σ 0 0 Rt := by
  unfold Mo_ifLoad_n75 at h
  refine pw_iload 2 (px_at td_Mo_ifLoad 43 rfl) rfl ?_
  refine pw_aload_n 0 (px_at td_Mo_ifLoad 44 rfl) rfl rfl ?_
  obtain ⟨r9, hk9, h⟩ := px_b1_e h
  refine pw_cV1 (0, 0, 0) [] [.inl v4] (px_at td_Mo_ifLoad 45 rfl) lV_Mo_223 rfl rfl rfl (Nat.le_of_ble_eq_true rfl) (by decide) (k_Mo_rails hk9) ?_
  rcases px_ite h with ⟨hc13, h⟩ | ⟨hc13, h⟩
  · refine pw_icmp_ge 124 (px_at td_Mo_ifLoad 46 rfl) (by decide) (fun _ => ?_) (fun hn => absurd hc13 hn)
    refine pw_L [(0, .inr (some (0, 0, 0))), (3, .inl v3)] [0, 1] rfl ?_
    exact hX0 v3 (Option.some.inj h).symm
  · refine pw_icmp_ge 124 (px_at td_Mo_ifLoad 46 rfl) (by decide) (fun hn => absurd hn hc13) (fun _ => ?_)
    refine pw_aload_n 0 (px_at td_Mo_ifLoad 47 rfl) rfl rfl ?_
    refine pw_getf (v := .inr (some (1, 28, 0))) (px_at td_Mo_ifLoad 48 rfl) lf_Mo_63 rfl rfl rfl ?_
    refine pw_bipush (v := 13) (px_at td_Mo_ifLoad 49 rfl) (by decide) ?_
    refine pw_iload 2 (px_at td_Mo_ifLoad 50 rfl) rfl ?_
    refine pw_imul (px_at td_Mo_ifLoad 51 rfl) ?_
    refine pw_iconst (v := 5) (px_at td_Mo_ifLoad 52 rfl) (by decide) ?_
    refine pw_iadd (px_at td_Mo_ifLoad 53 rfl) ?_
    obtain ⟨hi10, h⟩ := px_gd_e h
    refine pw_ial (px_at td_Mo_ifLoad 54 rfl) rfl hi10 rfl ?_
    refine pw_aload_n 0 (px_at td_Mo_ifLoad 55 rfl) rfl rfl ?_
    refine pw_getf (v := .inr (some (1, 29, 0))) (px_at td_Mo_ifLoad 56 rfl) lf_Mo_66 rfl rfl rfl ?_
    refine pw_bipush (v := 13) (px_at td_Mo_ifLoad 57 rfl) (by decide) ?_
    refine pw_iload 2 (px_at td_Mo_ifLoad 58 rfl) rfl ?_
    refine pw_imul (px_at td_Mo_ifLoad 59 rfl) ?_
    refine pw_iconst (v := 5) (px_at td_Mo_ifLoad 60 rfl) (by decide) ?_
    refine pw_iadd (px_at td_Mo_ifLoad 61 rfl) ?_
    obtain ⟨hi11, h⟩ := px_gd_e h
    refine pw_ial (px_at td_Mo_ifLoad 62 rfl) rfl hi11 rfl ?_
    rcases px_ite h with ⟨hc12, h⟩ | ⟨hc12, h⟩
    · refine pw_icmp_le 118 (px_at td_Mo_ifLoad 63 rfl) (by decide) (fun _ => ?_) (fun hn => absurd hc12 hn)
      exact Mo_ifLoad_n118_l h hC hX0
    · refine pw_icmp_le 118 (px_at td_Mo_ifLoad 63 rfl) (by decide) (fun hn => absurd hn hc12) (fun _ => ?_)
      refine pw_iload_n 1 (px_at td_Mo_ifLoad 64 rfl) rfl rfl ?_
      refine pw_iconst (v := 1) (px_at td_Mo_ifLoad 65 rfl) (by decide) ?_
      refine pw_iload 2 (px_at td_Mo_ifLoad 66 rfl) rfl ?_
      refine pw_ishl (px_at td_Mo_ifLoad 67 rfl) ?_
      refine pw_ior (px_at td_Mo_ifLoad 68 rfl) ?_
      refine pw_istore_n (L' := [(3, .inl (v3 ||| (1 <<< (v4 &&& 31)))), (0, .inr (some (0, 0, 0))), (4, .inl v4)]) (px_at td_Mo_ifLoad 69 rfl) rfl (by decide) rfl ?_
      refine pw_L [(0, .inr (some (0, 0, 0))), (3, .inl (v3 ||| (1 <<< (v4 &&& 31)))), (4, .inl v4)] [1, 0, 2] rfl ?_
      exact Mo_ifLoad_n118_l h hC hX0
def Mo_ifLoad_L75 (σ : pxS) : (Int32 × Int32) → Option ((Int32 × Int32) ⊕ (Int32)) := fun s => Mo_ifLoad_n75 σ s.1 s.2
set_option maxRecDepth 100000 in
theorem Mo_ifLoad_L75_l {l : Launch} {ids : List pxI} {Rt : Option pxV → List pxI → pxG → pxS → Prop} {σ : pxS} {n : Nat} {s : Int32 × Int32} {e : Int32} (h : px_it (Mo_ifLoad_L75 σ) n s = some e) (hX0 : pw l (px_R 9) y_Mo_ifLoad c_Mo_ifLoad 5 (some .int) 124 [(0, .inr (some (0, 0, 0))), (3, .inl e)] [] ids mG σ 0 0 Rt) : pw l (px_R 9) y_Mo_ifLoad c_Mo_ifLoad 5 (some .int) 75 [(0, .inr (some (0, 0, 0))), (3, .inl s.1), (4, .inl s.2)] [] ids mG σ 0 0 Rt := by
  refine px_it_rule (f := Mo_ifLoad_L75 σ) (C := fun s => pw l (px_R 9) y_Mo_ifLoad c_Mo_ifLoad 5 (some .int) 75 [(0, .inr (some (0, 0, 0))), (3, .inl s.1), (4, .inl s.2)] [] ids mG σ 0 0 Rt) (X := fun e => (pw l (px_R 9) y_Mo_ifLoad c_Mo_ifLoad 5 (some .int) 124 [(0, .inr (some (0, 0, 0))), (3, .inl e)] [] ids mG σ 0 0 Rt)) ?_ ?_ n s e h hX0
  · intro s s1 hf hC
    exact Mo_ifLoad_n75_l hf (fun s2 hs => by cases hs; exact hC) (fun e he => by cases he)
  · intro s e hf hX
    exact Mo_ifLoad_n75_l hf (fun s2 hs => by cases hs) (fun e1 he => by cases he; exact hX)
def F_Mo_ifLoad (σ : pxS) (v1 : Int32) (v2 : Int32) : Option (Int32 × pxS) :=
  px_l (px_up σ (0, 0, 0) 0 0) fun σ1 =>
  px_b1 (F_Mo_isRail σ1 v1) fun r2 =>
  (if r2 = 0 then Mo_ifLoad_n24 σ1  else (if v2 < 0 then Mo_ifLoad_n24 σ1  else (if v2 ≤ 9999 then px_b1 (F_Mo_copies_28_29 σ1 0 0) fun σ3 =>
  px_gd ((13 * v1) + 6) 308 (px_l (px_up σ3 (1, 28, 0) ((13 * v1) + 6).toNatClampNeg v2) fun σ5 =>
  px_b1 (px_it (Mo_ifLoad_L54 ) px_N (0, σ5)) fun e8 =>
  px_b1 (px_it (Mo_ifLoad_L75 e8) px_N (0, 0)) fun e14 =>
  px_b1 (F_Mo_copies_29_28 e8 0 0) fun σ15 =>
  some (e14, σ15)) else Mo_ifLoad_n24 σ1 )))
set_option maxRecDepth 100000 in
theorem e_Mo_ifLoad {l : Launch} {ids : List pxI} {Rt : Option pxV → List pxI → pxG → pxS → Prop} {σ : pxS} {v1 : Int32} {v2 : Int32} {res : Int32 × pxS} (h : F_Mo_ifLoad σ v1 v2 = some res) (hR : Rt (some (.inl res.1)) ids mG res.2) : pw l (px_R 9) y_Mo_ifLoad c_Mo_ifLoad 5 (some .int) 0 [(0, .inr (some (0, 0, 0))), (1, .inl v1), (2, .inl v2)] [] ids mG σ 0 0 Rt := by
  unfold F_Mo_ifLoad at h
  refine pw_aload_n 0 (px_at td_Mo_ifLoad 0 rfl) rfl rfl ?_
  refine pw_iconst (v := 0) (px_at td_Mo_ifLoad 1 rfl) (by decide) ?_
  obtain ⟨σ1, hσ1, h⟩ := px_l_e h
  refine pw_puti (px_at td_Mo_ifLoad 2 rfl) lw_Mo_99 rfl rfl (pw_s hσ1 ?_)
  refine pw_aload_n 0 (px_at td_Mo_ifLoad 3 rfl) rfl rfl ?_
  refine pw_iload_n 1 (px_at td_Mo_ifLoad 4 rfl) rfl rfl ?_
  obtain ⟨r2, hk2, h⟩ := px_b1_e h
  refine pw_cV1 (0, 0, 0) [.inl v1] [] (px_at td_Mo_ifLoad 5 rfl) lV_Mo_300 rfl rfl rfl (Nat.le_of_ble_eq_true rfl) (by decide) (k_Mo_isRail hk2) ?_
  rcases px_ite h with ⟨hc18, h⟩ | ⟨hc18, h⟩
  · refine pw_if_eq 24 (px_at td_Mo_ifLoad 6 rfl) (by decide) (fun _ => ?_) (fun hn => absurd hc18 hn)
    refine pw_L [] [] rfl ?_
    exact Mo_ifLoad_n24_l h hR
  · refine pw_if_eq 24 (px_at td_Mo_ifLoad 6 rfl) (by decide) (fun hn => absurd hn hc18) (fun _ => ?_)
    refine pw_iload_n 2 (px_at td_Mo_ifLoad 7 rfl) rfl rfl ?_
    rcases px_ite h with ⟨hc17, h⟩ | ⟨hc17, h⟩
    · refine pw_if_lt 24 (px_at td_Mo_ifLoad 8 rfl) (by decide) (fun _ => ?_) (fun hn => absurd hc17 hn)
      refine pw_L [] [] rfl ?_
      exact Mo_ifLoad_n24_l h hR
    · refine pw_if_lt 24 (px_at td_Mo_ifLoad 8 rfl) (by decide) (fun hn => absurd hn hc17) (fun _ => ?_)
      refine pw_iload_n 2 (px_at td_Mo_ifLoad 9 rfl) rfl rfl ?_
      refine pw_sipush (v := 9999) (px_at td_Mo_ifLoad 10 rfl) (by decide) ?_
      rcases px_ite h with ⟨hc16, h⟩ | ⟨hc16, h⟩
      · refine pw_icmp_le 26 (px_at td_Mo_ifLoad 11 rfl) (by decide) (fun _ => ?_) (fun hn => absurd hc16 hn)
        refine pw_aload_n 0 (px_at td_Mo_ifLoad 14 rfl) rfl rfl ?_
        refine pw_getf (v := .inr (some (1, 28, 0))) (px_at td_Mo_ifLoad 15 rfl) lf_Mo_63 rfl rfl rfl ?_
        refine pw_iconst (v := 0) (px_at td_Mo_ifLoad 16 rfl) (by decide) ?_
        refine pw_aload_n 0 (px_at td_Mo_ifLoad 17 rfl) rfl rfl ?_
        refine pw_getf (v := .inr (some (1, 29, 0))) (px_at td_Mo_ifLoad 18 rfl) lf_Mo_66 rfl rfl rfl ?_
        refine pw_iconst (v := 0) (px_at td_Mo_ifLoad 19 rfl) (by decide) ?_
        obtain ⟨σ3, hk3, h⟩ := px_b1_e h
        refine pw_cS0 [.inr (some (1, 28, 0)), .inl 0, .inr (some (1, 29, 0)), .inl 0] [] (px_at td_Mo_ifLoad 20 rfl) lS_Mo_226 rfl rfl (Nat.le_of_ble_eq_true rfl) (by decide) (k_Mo_copies_28_29 hk3) ?_
        refine pw_aload_n 0 (px_at td_Mo_ifLoad 21 rfl) rfl rfl ?_
        refine pw_getf (v := .inr (some (1, 28, 0))) (px_at td_Mo_ifLoad 22 rfl) lf_Mo_63 rfl rfl rfl ?_
        refine pw_bipush (v := 13) (px_at td_Mo_ifLoad 23 rfl) (by decide) ?_
        refine pw_iload_n 1 (px_at td_Mo_ifLoad 24 rfl) rfl rfl ?_
        refine pw_imul (px_at td_Mo_ifLoad 25 rfl) ?_
        refine pw_bipush (v := 6) (px_at td_Mo_ifLoad 26 rfl) (by decide) ?_
        refine pw_iadd (px_at td_Mo_ifLoad 27 rfl) ?_
        refine pw_iload_n 2 (px_at td_Mo_ifLoad 28 rfl) rfl rfl ?_
        obtain ⟨hi4, h⟩ := px_gd_e h
        obtain ⟨σ5, hσ5, h⟩ := px_l_e h
        refine pw_ias (px_at td_Mo_ifLoad 29 rfl) rfl hi4 rfl hσ5 ?_
        refine pw_iconst (v := 0) (px_at td_Mo_ifLoad 30 rfl) (by decide) ?_
        refine pw_istore_n (L' := [(3, .inl 0), (0, .inr (some (0, 0, 0))), (1, .inl v1), (2, .inl v2)]) (px_at td_Mo_ifLoad 31 rfl) rfl (by decide) rfl ?_
        obtain ⟨e8, he8, h⟩ := px_b1_e h
        refine pw_L [(0, .inr (some (0, 0, 0))), (3, .inl 0)] [1, 0] rfl ?_
        refine Mo_ifLoad_L54_l he8 ?_
        refine pw_iconst (v := 0) (px_at td_Mo_ifLoad 39 rfl) (by decide) ?_
        refine pw_istore_n (L' := [(3, .inl 0), (0, .inr (some (0, 0, 0)))]) (px_at td_Mo_ifLoad 40 rfl) rfl (by decide) rfl ?_
        refine pw_iconst (v := 0) (px_at td_Mo_ifLoad 41 rfl) (by decide) ?_
        refine pw_istore (L' := [(4, .inl 0), (3, .inl 0), (0, .inr (some (0, 0, 0)))]) (px_at td_Mo_ifLoad 42 rfl) (by decide) rfl ?_
        obtain ⟨e14, he14, h⟩ := px_b1_e h
        refine pw_L [(0, .inr (some (0, 0, 0))), (3, .inl 0), (4, .inl 0)] [2, 1, 0] rfl ?_
        refine Mo_ifLoad_L75_l he14 ?_
        refine pw_aload_n 0 (px_at td_Mo_ifLoad 72 rfl) rfl rfl ?_
        refine pw_getf (v := .inr (some (1, 29, 0))) (px_at td_Mo_ifLoad 73 rfl) lf_Mo_66 rfl rfl rfl ?_
        refine pw_iconst (v := 0) (px_at td_Mo_ifLoad 74 rfl) (by decide) ?_
        refine pw_aload_n 0 (px_at td_Mo_ifLoad 75 rfl) rfl rfl ?_
        refine pw_getf (v := .inr (some (1, 28, 0))) (px_at td_Mo_ifLoad 76 rfl) lf_Mo_63 rfl rfl rfl ?_
        refine pw_iconst (v := 0) (px_at td_Mo_ifLoad 77 rfl) (by decide) ?_
        obtain ⟨σ15, hk15, h⟩ := px_b1_e h
        refine pw_cS0 [.inr (some (1, 29, 0)), .inl 0, .inr (some (1, 28, 0)), .inl 0] [] (px_at td_Mo_ifLoad 78 rfl) lS_Mo_226 rfl rfl (Nat.le_of_ble_eq_true rfl) (by decide) (k_Mo_copies_29_28 hk15) ?_
        refine pw_iload_n 1 (px_at td_Mo_ifLoad 79 rfl) rfl rfl ?_
        obtain rfl := Option.some.inj h
        exact pw_iret (px_at td_Mo_ifLoad 80 rfl) rfl (Nat.le_refl 0) (Nat.le_refl 0) hR
      · refine pw_icmp_le 26 (px_at td_Mo_ifLoad 11 rfl) (by decide) (fun hn => absurd hn hc16) (fun _ => ?_)
        refine pw_L [] [] rfl ?_
        exact Mo_ifLoad_n24_l h hR
theorem k_Mo_ifLoad {l : Launch} {ids : List pxI} {σ : pxS} {v1 : Int32} {v2 : Int32} {res : Int32 × pxS} (h : F_Mo_ifLoad σ v1 v2 = some res) : pm l y_Mo_ifLoad c_Mo_ifLoad 5 (some .int) (px_R 9) [.inr (some (0, 0, 0)), .inl v1, .inl v2] ids mG σ (px_r (some (.inl res.1)) ids mG res.2) :=
  pm_ofF (by decide +kernel) (Nat.le_of_ble_eq_true rfl) (e_Mo_ifLoad h ⟨rfl, rfl, rfl, rfl⟩)
/-! Mo_ifOff -/
def Mo_ifOff_n118 (σ : pxS) (v2 : Int32) (v3 : Int32) : Option ((Int32 × Int32) ⊕ (Int32)) :=
  some (.inl (v2, (v3 + 1)))
set_option maxRecDepth 100000 in
theorem Mo_ifOff_n118_l {l : Launch} {ids : List pxI} {Rt : Option pxV → List pxI → pxG → pxS → Prop} {σ : pxS} {v2 : Int32} {v3 : Int32} {o : (Int32 × Int32) ⊕ (Int32)} (h : Mo_ifOff_n118 σ v2 v3 = some o) (hC : ∀ s, o = .inl s → pw l (px_R 6) y_Mo_ifOff c_Mo_ifOff 5 (some .int) 38 [(0, .inr (some (0, 0, 0))), (2, .inl s.1), (3, .inl s.2)] [] ids mG σ 0 0 Rt) (hX0 : ∀ e, o = .inr e → pw l (px_R 6) y_Mo_ifOff c_Mo_ifOff 5 (some .int) 124 [(0, .inr (some (0, 0, 0))), (2, .inl e)] [] ids mG σ 0 0 Rt) : pw l (px_R 6) y_Mo_ifOff c_Mo_ifOff 5 (some .int) 118 [(0, .inr (some (0, 0, 0))), (2, .inl v2), (3, .inl v3)] [] ids mG σ 0 0 Rt := by
  unfold Mo_ifOff_n118 at h
  refine pw_iinc (q := 2) (v := (v3 + 1)) (L' := [(3, .inl (v3 + 1)), (0, .inr (some (0, 0, 0))), (2, .inl v2)]) (px_at td_Mo_ifOff 73 rfl) rfl rfl (by decide) rfl ?_
  refine pw_goto 38 (px_at td_Mo_ifOff 74 rfl) (by decide) ?_
  refine pw_L [(0, .inr (some (0, 0, 0))), (2, .inl v2), (3, .inl (v3 + 1))] [1, 2, 0] rfl ?_
  exact hC (v2, (v3 + 1)) (Option.some.inj h).symm
def Mo_ifOff_n112 (σ : pxS) (v2 : Int32) (v3 : Int32) : Option ((Int32 × Int32) ⊕ (Int32)) :=
  Mo_ifOff_n118 σ (v2 ||| (1 <<< (v3 &&& 31))) v3
set_option maxRecDepth 100000 in
theorem Mo_ifOff_n112_l {l : Launch} {ids : List pxI} {Rt : Option pxV → List pxI → pxG → pxS → Prop} {σ : pxS} {v2 : Int32} {v3 : Int32} {o : (Int32 × Int32) ⊕ (Int32)} (h : Mo_ifOff_n112 σ v2 v3 = some o) (hC : ∀ s, o = .inl s → pw l (px_R 6) y_Mo_ifOff c_Mo_ifOff 5 (some .int) 38 [(0, .inr (some (0, 0, 0))), (2, .inl s.1), (3, .inl s.2)] [] ids mG σ 0 0 Rt) (hX0 : ∀ e, o = .inr e → pw l (px_R 6) y_Mo_ifOff c_Mo_ifOff 5 (some .int) 124 [(0, .inr (some (0, 0, 0))), (2, .inl e)] [] ids mG σ 0 0 Rt) : pw l (px_R 6) y_Mo_ifOff c_Mo_ifOff 5 (some .int) 112 [(0, .inr (some (0, 0, 0))), (2, .inl v2), (3, .inl v3)] [] ids mG σ 0 0 Rt := by
  unfold Mo_ifOff_n112 at h
  refine pw_iload_n 1 (px_at td_Mo_ifOff 67 rfl) rfl rfl ?_
  refine pw_iconst (v := 1) (px_at td_Mo_ifOff 68 rfl) (by decide) ?_
  refine pw_iload_n 2 (px_at td_Mo_ifOff 69 rfl) rfl rfl ?_
  refine pw_ishl (px_at td_Mo_ifOff 70 rfl) ?_
  refine pw_ior (px_at td_Mo_ifOff 71 rfl) ?_
  refine pw_istore_n (L' := [(2, .inl (v2 ||| (1 <<< (v3 &&& 31)))), (0, .inr (some (0, 0, 0))), (3, .inl v3)]) (px_at td_Mo_ifOff 72 rfl) rfl (by decide) rfl ?_
  refine pw_L [(0, .inr (some (0, 0, 0))), (2, .inl (v2 ||| (1 <<< (v3 &&& 31)))), (3, .inl v3)] [1, 0, 2] rfl ?_
  exact Mo_ifOff_n118_l h hC hX0
def Mo_ifOff_n81 (σ : pxS) (v2 : Int32) (v3 : Int32) : Option ((Int32 × Int32) ⊕ (Int32)) :=
  px_b1 (F_Mo_state σ v3) fun r7 =>
  (if r7 = 0 then px_gd ((13 * v3) + 0) 308 ((if (σ (1, 29, 0) ((13 * v3) + 0).toNatClampNeg) = 1 then Mo_ifOff_n112 σ v2 v3 else Mo_ifOff_n118 σ v2 v3)) else Mo_ifOff_n118 σ v2 v3)
set_option maxRecDepth 100000 in
theorem Mo_ifOff_n81_l {l : Launch} {ids : List pxI} {Rt : Option pxV → List pxI → pxG → pxS → Prop} {σ : pxS} {v2 : Int32} {v3 : Int32} {o : (Int32 × Int32) ⊕ (Int32)} (h : Mo_ifOff_n81 σ v2 v3 = some o) (hC : ∀ s, o = .inl s → pw l (px_R 6) y_Mo_ifOff c_Mo_ifOff 5 (some .int) 38 [(0, .inr (some (0, 0, 0))), (2, .inl s.1), (3, .inl s.2)] [] ids mG σ 0 0 Rt) (hX0 : ∀ e, o = .inr e → pw l (px_R 6) y_Mo_ifOff c_Mo_ifOff 5 (some .int) 124 [(0, .inr (some (0, 0, 0))), (2, .inl e)] [] ids mG σ 0 0 Rt) : pw l (px_R 6) y_Mo_ifOff c_Mo_ifOff 5 (some .int) 81 [(0, .inr (some (0, 0, 0))), (2, .inl v2), (3, .inl v3)] [] ids mG σ 0 0 Rt := by
  unfold Mo_ifOff_n81 at h
  refine pw_iconst (v := 0) (px_at td_Mo_ifOff 49 rfl) (by decide) ?_
  refine pw_istore (L' := [(4, .inl 0), (0, .inr (some (0, 0, 0))), (2, .inl v2), (3, .inl v3)]) (px_at td_Mo_ifOff 50 rfl) (by decide) rfl ?_
  refine pw_iload 0 (px_at td_Mo_ifOff 51 rfl) rfl ?_
  refine pw_if_ne 112 (px_at td_Mo_ifOff 52 rfl) (by decide) (fun hn => absurd hn (by decide)) (fun hn => ?_)
  refine pw_aload_n 1 (px_at td_Mo_ifOff 53 rfl) rfl rfl ?_
  refine pw_iload_n 3 (px_at td_Mo_ifOff 54 rfl) rfl rfl ?_
  obtain ⟨r7, hk7, h⟩ := px_b1_e h
  refine pw_cV1 (0, 0, 0) [.inl v3] [] (px_at td_Mo_ifOff 55 rfl) lV_Mo_230 rfl rfl rfl (Nat.le_of_ble_eq_true rfl) (by decide) (k_Mo_state hk7) ?_
  rcases px_ite h with ⟨hc10, h⟩ | ⟨hc10, h⟩
  · refine pw_if_ne 118 (px_at td_Mo_ifOff 56 rfl) (by decide) (fun hn => absurd hc10 hn) (fun _ => ?_)
    refine pw_aload_n 1 (px_at td_Mo_ifOff 57 rfl) rfl rfl ?_
    refine pw_getf (v := .inr (some (1, 29, 0))) (px_at td_Mo_ifOff 58 rfl) lf_Mo_66 rfl rfl rfl ?_
    refine pw_bipush (v := 13) (px_at td_Mo_ifOff 59 rfl) (by decide) ?_
    refine pw_iload_n 3 (px_at td_Mo_ifOff 60 rfl) rfl rfl ?_
    refine pw_imul (px_at td_Mo_ifOff 61 rfl) ?_
    refine pw_iconst (v := 0) (px_at td_Mo_ifOff 62 rfl) (by decide) ?_
    refine pw_iadd (px_at td_Mo_ifOff 63 rfl) ?_
    obtain ⟨hi8, h⟩ := px_gd_e h
    refine pw_ial (px_at td_Mo_ifOff 64 rfl) rfl hi8 rfl ?_
    refine pw_iconst (v := 1) (px_at td_Mo_ifOff 65 rfl) (by decide) ?_
    rcases px_ite h with ⟨hc9, h⟩ | ⟨hc9, h⟩
    · refine pw_icmp_ne 118 (px_at td_Mo_ifOff 66 rfl) (by decide) (fun hn => absurd hc9 hn) (fun _ => ?_)
      refine pw_L [(0, .inr (some (0, 0, 0))), (2, .inl v2), (3, .inl v3)] [1, 2, 3] rfl ?_
      exact Mo_ifOff_n112_l h hC hX0
    · refine pw_icmp_ne 118 (px_at td_Mo_ifOff 66 rfl) (by decide) (fun _ => ?_) (fun hn => absurd hn hc9)
      refine pw_L [(0, .inr (some (0, 0, 0))), (2, .inl v2), (3, .inl v3)] [1, 2, 3] rfl ?_
      exact Mo_ifOff_n118_l h hC hX0
  · refine pw_if_ne 118 (px_at td_Mo_ifOff 56 rfl) (by decide) (fun _ => ?_) (fun hn => absurd hn hc10)
    refine pw_L [(0, .inr (some (0, 0, 0))), (2, .inl v2), (3, .inl v3)] [1, 2, 3] rfl ?_
    exact Mo_ifOff_n118_l h hC hX0
def Mo_ifOff_n38 (σ : pxS) (v2 : Int32) (v3 : Int32) : Option ((Int32 × Int32) ⊕ (Int32)) :=
  px_b1 (F_Mo_rails σ ) fun r5 =>
  (if r5 ≤ v3 then some (.inr v2) else px_gd ((13 * v3) + 8) 308 ((if (σ (1, 28, 0) ((13 * v3) + 8).toNatClampNeg) = 1 then px_gd ((13 * v3) + 8) 308 ((if (σ (1, 29, 0) ((13 * v3) + 8).toNatClampNeg) = 0 then Mo_ifOff_n112 σ v2 v3 else Mo_ifOff_n81 σ v2 v3)) else Mo_ifOff_n81 σ v2 v3)))
set_option maxRecDepth 100000 in
theorem Mo_ifOff_n38_l {l : Launch} {ids : List pxI} {Rt : Option pxV → List pxI → pxG → pxS → Prop} {σ : pxS} {v2 : Int32} {v3 : Int32} {o : (Int32 × Int32) ⊕ (Int32)} (h : Mo_ifOff_n38 σ v2 v3 = some o) (hC : ∀ s, o = .inl s → pw l (px_R 6) y_Mo_ifOff c_Mo_ifOff 5 (some .int) 38 [(0, .inr (some (0, 0, 0))), (2, .inl s.1), (3, .inl s.2)] [] ids mG σ 0 0 Rt) (hX0 : ∀ e, o = .inr e → pw l (px_R 6) y_Mo_ifOff c_Mo_ifOff 5 (some .int) 124 [(0, .inr (some (0, 0, 0))), (2, .inl e)] [] ids mG σ 0 0 Rt) : pw l (px_R 6) y_Mo_ifOff c_Mo_ifOff 5 (some .int) 38 [(0, .inr (some (0, 0, 0))), (2, .inl v2), (3, .inl v3)] [] ids mG σ 0 0 Rt := by
  unfold Mo_ifOff_n38 at h
  refine pw_iload_n 2 (px_at td_Mo_ifOff 24 rfl) rfl rfl ?_
  refine pw_aload_n 0 (px_at td_Mo_ifOff 25 rfl) rfl rfl ?_
  obtain ⟨r5, hk5, h⟩ := px_b1_e h
  refine pw_cV1 (0, 0, 0) [] [.inl v3] (px_at td_Mo_ifOff 26 rfl) lV_Mo_223 rfl rfl rfl (Nat.le_of_ble_eq_true rfl) (by decide) (k_Mo_rails hk5) ?_
  rcases px_ite h with ⟨hc14, h⟩ | ⟨hc14, h⟩
  · refine pw_icmp_ge 124 (px_at td_Mo_ifOff 27 rfl) (by decide) (fun _ => ?_) (fun hn => absurd hc14 hn)
    refine pw_L [(0, .inr (some (0, 0, 0))), (2, .inl v2)] [0, 1] rfl ?_
    exact hX0 v2 (Option.some.inj h).symm
  · refine pw_icmp_ge 124 (px_at td_Mo_ifOff 27 rfl) (by decide) (fun hn => absurd hn hc14) (fun _ => ?_)
    refine pw_aload_n 0 (px_at td_Mo_ifOff 28 rfl) rfl rfl ?_
    refine pw_getf (v := .inr (some (1, 28, 0))) (px_at td_Mo_ifOff 29 rfl) lf_Mo_63 rfl rfl rfl ?_
    refine pw_bipush (v := 13) (px_at td_Mo_ifOff 30 rfl) (by decide) ?_
    refine pw_iload_n 2 (px_at td_Mo_ifOff 31 rfl) rfl rfl ?_
    refine pw_imul (px_at td_Mo_ifOff 32 rfl) ?_
    refine pw_bipush (v := 8) (px_at td_Mo_ifOff 33 rfl) (by decide) ?_
    refine pw_iadd (px_at td_Mo_ifOff 34 rfl) ?_
    obtain ⟨hi6, h⟩ := px_gd_e h
    refine pw_ial (px_at td_Mo_ifOff 35 rfl) rfl hi6 rfl ?_
    refine pw_iconst (v := 1) (px_at td_Mo_ifOff 36 rfl) (by decide) ?_
    rcases px_ite h with ⟨hc13, h⟩ | ⟨hc13, h⟩
    · refine pw_icmp_ne 81 (px_at td_Mo_ifOff 37 rfl) (by decide) (fun hn => absurd hc13 hn) (fun _ => ?_)
      refine pw_aload_n 0 (px_at td_Mo_ifOff 38 rfl) rfl rfl ?_
      refine pw_getf (v := .inr (some (1, 29, 0))) (px_at td_Mo_ifOff 39 rfl) lf_Mo_66 rfl rfl rfl ?_
      refine pw_bipush (v := 13) (px_at td_Mo_ifOff 40 rfl) (by decide) ?_
      refine pw_iload_n 2 (px_at td_Mo_ifOff 41 rfl) rfl rfl ?_
      refine pw_imul (px_at td_Mo_ifOff 42 rfl) ?_
      refine pw_bipush (v := 8) (px_at td_Mo_ifOff 43 rfl) (by decide) ?_
      refine pw_iadd (px_at td_Mo_ifOff 44 rfl) ?_
      obtain ⟨hi11, h⟩ := px_gd_e h
      refine pw_ial (px_at td_Mo_ifOff 45 rfl) rfl hi11 rfl ?_
      rcases px_ite h with ⟨hc12, h⟩ | ⟨hc12, h⟩
      · refine pw_if_ne 81 (px_at td_Mo_ifOff 46 rfl) (by decide) (fun hn => absurd hc12 hn) (fun _ => ?_)
        refine pw_iconst (v := 1) (px_at td_Mo_ifOff 47 rfl) (by decide) ?_
        refine pw_goto 82 (px_at td_Mo_ifOff 48 rfl) (by decide) ?_
        refine pw_istore (L' := [(4, .inl 1), (0, .inr (some (0, 0, 0))), (2, .inl v2), (3, .inl v3)]) (px_at td_Mo_ifOff 50 rfl) (by decide) rfl ?_
        refine pw_iload 0 (px_at td_Mo_ifOff 51 rfl) rfl ?_
        refine pw_if_ne 112 (px_at td_Mo_ifOff 52 rfl) (by decide) (fun hn => ?_) (fun hn => absurd hn (by decide))
        refine pw_L [(0, .inr (some (0, 0, 0))), (2, .inl v2), (3, .inl v3)] [1, 2, 3] rfl ?_
        exact Mo_ifOff_n112_l h hC hX0
      · refine pw_if_ne 81 (px_at td_Mo_ifOff 46 rfl) (by decide) (fun _ => ?_) (fun hn => absurd hn hc12)
        exact Mo_ifOff_n81_l h hC hX0
    · refine pw_icmp_ne 81 (px_at td_Mo_ifOff 37 rfl) (by decide) (fun _ => ?_) (fun hn => absurd hn hc13)
      exact Mo_ifOff_n81_l h hC hX0
def Mo_ifOff_L38 (σ : pxS) : (Int32 × Int32) → Option ((Int32 × Int32) ⊕ (Int32)) := fun s => Mo_ifOff_n38 σ s.1 s.2
set_option maxRecDepth 100000 in
theorem Mo_ifOff_L38_l {l : Launch} {ids : List pxI} {Rt : Option pxV → List pxI → pxG → pxS → Prop} {σ : pxS} {n : Nat} {s : Int32 × Int32} {e : Int32} (h : px_it (Mo_ifOff_L38 σ) n s = some e) (hX0 : pw l (px_R 6) y_Mo_ifOff c_Mo_ifOff 5 (some .int) 124 [(0, .inr (some (0, 0, 0))), (2, .inl e)] [] ids mG σ 0 0 Rt) : pw l (px_R 6) y_Mo_ifOff c_Mo_ifOff 5 (some .int) 38 [(0, .inr (some (0, 0, 0))), (2, .inl s.1), (3, .inl s.2)] [] ids mG σ 0 0 Rt := by
  refine px_it_rule (f := Mo_ifOff_L38 σ) (C := fun s => pw l (px_R 6) y_Mo_ifOff c_Mo_ifOff 5 (some .int) 38 [(0, .inr (some (0, 0, 0))), (2, .inl s.1), (3, .inl s.2)] [] ids mG σ 0 0 Rt) (X := fun e => (pw l (px_R 6) y_Mo_ifOff c_Mo_ifOff 5 (some .int) 124 [(0, .inr (some (0, 0, 0))), (2, .inl e)] [] ids mG σ 0 0 Rt)) ?_ ?_ n s e h hX0
  · intro s s1 hf hC
    exact Mo_ifOff_n38_l hf (fun s2 hs => by cases hs; exact hC) (fun e he => by cases he)
  · intro s e hf hX
    exact Mo_ifOff_n38_l hf (fun s2 hs => by cases hs) (fun e1 he => by cases he; exact hX)
def F_Mo_ifOff (σ : pxS) (v1 : Int32) : Option (Int32 × pxS) :=
  px_l (px_up σ (0, 0, 0) 0 0) fun σ1 =>
  px_b1 (F_Mo_isRail σ1 v1) fun r2 =>
  (if r2 = 0 then some ((-1), σ1) else px_b1 (F_Mo_copies_28_29 σ1 0 0) fun σ3 =>
  px_b1 (F_Mo_asks σ3 v1 1) fun σ4 =>
  px_b1 (px_it (Mo_ifOff_L38 σ4) px_N (0, 0)) fun e15 =>
  px_b1 (F_Mo_copies_29_28 σ4 0 0) fun σ16 =>
  some (e15, σ16))
set_option maxRecDepth 100000 in
theorem e_Mo_ifOff {l : Launch} {ids : List pxI} {Rt : Option pxV → List pxI → pxG → pxS → Prop} {σ : pxS} {v1 : Int32} {res : Int32 × pxS} (h : F_Mo_ifOff σ v1 = some res) (hR : Rt (some (.inl res.1)) ids mG res.2) : pw l (px_R 6) y_Mo_ifOff c_Mo_ifOff 5 (some .int) 0 [(0, .inr (some (0, 0, 0))), (1, .inl v1)] [] ids mG σ 0 0 Rt := by
  unfold F_Mo_ifOff at h
  refine pw_aload_n 0 (px_at td_Mo_ifOff 0 rfl) rfl rfl ?_
  refine pw_iconst (v := 0) (px_at td_Mo_ifOff 1 rfl) (by decide) ?_
  obtain ⟨σ1, hσ1, h⟩ := px_l_e h
  refine pw_puti (px_at td_Mo_ifOff 2 rfl) lw_Mo_99 rfl rfl (pw_s hσ1 ?_)
  refine pw_aload_n 0 (px_at td_Mo_ifOff 3 rfl) rfl rfl ?_
  refine pw_iload_n 1 (px_at td_Mo_ifOff 4 rfl) rfl rfl ?_
  obtain ⟨r2, hk2, h⟩ := px_b1_e h
  refine pw_cV1 (0, 0, 0) [.inl v1] [] (px_at td_Mo_ifOff 5 rfl) lV_Mo_300 rfl rfl rfl (Nat.le_of_ble_eq_true rfl) (by decide) (k_Mo_isRail hk2) ?_
  rcases px_ite h with ⟨hc17, h⟩ | ⟨hc17, h⟩
  · refine pw_if_ne 15 (px_at td_Mo_ifOff 6 rfl) (by decide) (fun hn => absurd hc17 hn) (fun _ => ?_)
    refine pw_iconst (v := (-1)) (px_at td_Mo_ifOff 7 rfl) (by decide) ?_
    obtain rfl := Option.some.inj h
    exact pw_iret (px_at td_Mo_ifOff 8 rfl) rfl (Nat.le_refl 0) (Nat.le_refl 0) hR
  · refine pw_if_ne 15 (px_at td_Mo_ifOff 6 rfl) (by decide) (fun _ => ?_) (fun hn => absurd hn hc17)
    refine pw_aload_n 0 (px_at td_Mo_ifOff 9 rfl) rfl rfl ?_
    refine pw_getf (v := .inr (some (1, 28, 0))) (px_at td_Mo_ifOff 10 rfl) lf_Mo_63 rfl rfl rfl ?_
    refine pw_iconst (v := 0) (px_at td_Mo_ifOff 11 rfl) (by decide) ?_
    refine pw_aload_n 0 (px_at td_Mo_ifOff 12 rfl) rfl rfl ?_
    refine pw_getf (v := .inr (some (1, 29, 0))) (px_at td_Mo_ifOff 13 rfl) lf_Mo_66 rfl rfl rfl ?_
    refine pw_iconst (v := 0) (px_at td_Mo_ifOff 14 rfl) (by decide) ?_
    obtain ⟨σ3, hk3, h⟩ := px_b1_e h
    refine pw_cS0 [.inr (some (1, 28, 0)), .inl 0, .inr (some (1, 29, 0)), .inl 0] [] (px_at td_Mo_ifOff 15 rfl) lS_Mo_226 rfl rfl (Nat.le_of_ble_eq_true rfl) (by decide) (k_Mo_copies_28_29 hk3) ?_
    refine pw_aload_n 0 (px_at td_Mo_ifOff 16 rfl) rfl rfl ?_
    refine pw_iload_n 1 (px_at td_Mo_ifOff 17 rfl) rfl rfl ?_
    refine pw_iconst (v := 1) (px_at td_Mo_ifOff 18 rfl) (by decide) ?_
    obtain ⟨σ4, hk4, h⟩ := px_b1_e h
    refine pw_cV0 (0, 0, 0) [.inl v1, .inl 1] [] (px_at td_Mo_ifOff 19 rfl) lV_Mo_262 rfl rfl rfl (Nat.le_of_ble_eq_true rfl) (by decide) (k_Mo_asks hk4) ?_
    refine pw_iconst (v := 0) (px_at td_Mo_ifOff 20 rfl) (by decide) ?_
    refine pw_istore_n (L' := [(2, .inl 0), (0, .inr (some (0, 0, 0))), (1, .inl v1)]) (px_at td_Mo_ifOff 21 rfl) rfl (by decide) rfl ?_
    refine pw_iconst (v := 0) (px_at td_Mo_ifOff 22 rfl) (by decide) ?_
    refine pw_istore_n (L' := [(3, .inl 0), (2, .inl 0), (0, .inr (some (0, 0, 0))), (1, .inl v1)]) (px_at td_Mo_ifOff 23 rfl) rfl (by decide) rfl ?_
    obtain ⟨e15, he15, h⟩ := px_b1_e h
    refine pw_L [(0, .inr (some (0, 0, 0))), (2, .inl 0), (3, .inl 0)] [2, 1, 0] rfl ?_
    refine Mo_ifOff_L38_l he15 ?_
    refine pw_aload_n 0 (px_at td_Mo_ifOff 75 rfl) rfl rfl ?_
    refine pw_getf (v := .inr (some (1, 29, 0))) (px_at td_Mo_ifOff 76 rfl) lf_Mo_66 rfl rfl rfl ?_
    refine pw_iconst (v := 0) (px_at td_Mo_ifOff 77 rfl) (by decide) ?_
    refine pw_aload_n 0 (px_at td_Mo_ifOff 78 rfl) rfl rfl ?_
    refine pw_getf (v := .inr (some (1, 28, 0))) (px_at td_Mo_ifOff 79 rfl) lf_Mo_63 rfl rfl rfl ?_
    refine pw_iconst (v := 0) (px_at td_Mo_ifOff 80 rfl) (by decide) ?_
    obtain ⟨σ16, hk16, h⟩ := px_b1_e h
    refine pw_cS0 [.inr (some (1, 29, 0)), .inl 0, .inr (some (1, 28, 0)), .inl 0] [] (px_at td_Mo_ifOff 81 rfl) lS_Mo_226 rfl rfl (Nat.le_of_ble_eq_true rfl) (by decide) (k_Mo_copies_29_28 hk16) ?_
    refine pw_iload_n 1 (px_at td_Mo_ifOff 82 rfl) rfl rfl ?_
    obtain rfl := Option.some.inj h
    exact pw_iret (px_at td_Mo_ifOff 83 rfl) rfl (Nat.le_refl 0) (Nat.le_refl 0) hR
theorem k_Mo_ifOff {l : Launch} {ids : List pxI} {σ : pxS} {v1 : Int32} {res : Int32 × pxS} (h : F_Mo_ifOff σ v1 = some res) : pm l y_Mo_ifOff c_Mo_ifOff 5 (some .int) (px_R 6) [.inr (some (0, 0, 0)), .inl v1] ids mG σ (px_r (some (.inl res.1)) ids mG res.2) :=
  pm_ofF (by decide +kernel) (Nat.le_of_ble_eq_true rfl) (e_Mo_ifOff h ⟨rfl, rfl, rfl, rfl⟩)
/-! Mo_bestOff -/
def Mo_bestOff_n16 (σ : pxS)  : Option (Int32 × pxS) :=
  some ((-1), σ)
set_option maxRecDepth 100000 in
theorem Mo_bestOff_n16_l {l : Launch} {ids : List pxI} {Rt : Option pxV → List pxI → pxG → pxS → Prop} {σ : pxS}  {res : Int32 × pxS} (h : Mo_bestOff_n16 σ  = some res) (hR : Rt (some (.inl res.1)) ids mG res.2) : pw l (px_R 9) y_Mo_bestOff c_Mo_bestOff 6 (some .int) 16 [] [] ids mG σ 0 0 Rt := by
  unfold Mo_bestOff_n16 at h
  refine pw_iconst (v := (-1)) (px_at td_Mo_bestOff 9 rfl) (by decide) ?_
  obtain rfl := Option.some.inj h
  exact pw_iret (px_at td_Mo_bestOff 10 rfl) rfl (Nat.le_refl 0) (Nat.le_refl 0) hR
def Mo_bestOff_n83 (σ : pxS) (v1 : Int32) (v2 : Int32) (v3 : Int32) (v4 : Int32) (v5 : Int32) : Option ((Int32 × pxS) ⊕ (pxS)) :=
  (if v1 ≤ v5 then some (.inr σ) else px_b1 (F_Mo_tickGoes σ ) fun σ6 =>
  some (.inl ((v5 + 1), σ6)))
set_option maxRecDepth 100000 in
theorem Mo_bestOff_n83_l {l : Launch} {ids : List pxI} {Rt : Option pxV → List pxI → pxG → pxS → Prop} {σ : pxS} {v1 : Int32} {v2 : Int32} {v3 : Int32} {v4 : Int32} {v5 : Int32} {o : (Int32 × pxS) ⊕ (pxS)} (h : Mo_bestOff_n83 σ v1 v2 v3 v4 v5 = some o) (hC : ∀ s, o = .inl s → pw l (px_R 9) y_Mo_bestOff c_Mo_bestOff 6 (some .int) 83 [(0, .inr (some (0, 0, 0))), (1, .inl v1), (2, .inl v2), (3, .inl v3), (4, .inl v4), (5, .inl s.1)] [] ids mG s.2 0 0 Rt) (hX0 : ∀ e, o = .inr e → pw l (px_R 9) y_Mo_bestOff c_Mo_bestOff 6 (some .int) 99 [(0, .inr (some (0, 0, 0))), (1, .inl v1), (2, .inl v2), (3, .inl v3), (4, .inl v4)] [] ids mG e 0 0 Rt) : pw l (px_R 9) y_Mo_bestOff c_Mo_bestOff 6 (some .int) 83 [(0, .inr (some (0, 0, 0))), (1, .inl v1), (2, .inl v2), (3, .inl v3), (4, .inl v4), (5, .inl v5)] [] ids mG σ 0 0 Rt := by
  unfold Mo_bestOff_n83 at h
  refine pw_iload 5 (px_at td_Mo_bestOff 45 rfl) rfl ?_
  refine pw_iload_n 1 (px_at td_Mo_bestOff 46 rfl) rfl rfl ?_
  rcases px_ite h with ⟨hc7, h⟩ | ⟨hc7, h⟩
  · refine pw_icmp_ge 99 (px_at td_Mo_bestOff 47 rfl) (by decide) (fun _ => ?_) (fun hn => absurd hc7 hn)
    refine pw_L [(0, .inr (some (0, 0, 0))), (1, .inl v1), (2, .inl v2), (3, .inl v3), (4, .inl v4)] [0, 1, 2, 3, 4] rfl ?_
    exact hX0 σ (Option.some.inj h).symm
  · refine pw_icmp_ge 99 (px_at td_Mo_bestOff 47 rfl) (by decide) (fun hn => absurd hn hc7) (fun _ => ?_)
    refine pw_aload_n 0 (px_at td_Mo_bestOff 48 rfl) rfl rfl ?_
    obtain ⟨σ6, hk6, h⟩ := px_b1_e h
    refine pw_cV0 (0, 0, 0) [] [] (px_at td_Mo_bestOff 49 rfl) lV_Mo_297 rfl rfl rfl (Nat.le_of_ble_eq_true rfl) (by decide) (k_Mo_tickGoes hk6) ?_
    refine pw_iinc (q := 5) (v := (v5 + 1)) (L' := [(5, .inl (v5 + 1)), (0, .inr (some (0, 0, 0))), (1, .inl v1), (2, .inl v2), (3, .inl v3), (4, .inl v4)]) (px_at td_Mo_bestOff 50 rfl) rfl rfl (by decide) rfl ?_
    refine pw_goto 83 (px_at td_Mo_bestOff 51 rfl) (by decide) ?_
    refine pw_L [(0, .inr (some (0, 0, 0))), (1, .inl v1), (2, .inl v2), (3, .inl v3), (4, .inl v4), (5, .inl (v5 + 1))] [1, 2, 3, 4, 5, 0] rfl ?_
    exact hC ((v5 + 1), σ6) (Option.some.inj h).symm
def Mo_bestOff_L83 (v1 : Int32) (v2 : Int32) (v3 : Int32) (v4 : Int32) : (Int32 × pxS) → Option ((Int32 × pxS) ⊕ (pxS)) := fun s => Mo_bestOff_n83 s.2 v1 v2 v3 v4 s.1
set_option maxRecDepth 100000 in
theorem Mo_bestOff_L83_l {l : Launch} {ids : List pxI} {Rt : Option pxV → List pxI → pxG → pxS → Prop} {v1 : Int32} {v2 : Int32} {v3 : Int32} {v4 : Int32} {n : Nat} {s : Int32 × pxS} {e : pxS} (h : px_it (Mo_bestOff_L83 v1 v2 v3 v4) n s = some e) (hX0 : pw l (px_R 9) y_Mo_bestOff c_Mo_bestOff 6 (some .int) 99 [(0, .inr (some (0, 0, 0))), (1, .inl v1), (2, .inl v2), (3, .inl v3), (4, .inl v4)] [] ids mG e 0 0 Rt) : pw l (px_R 9) y_Mo_bestOff c_Mo_bestOff 6 (some .int) 83 [(0, .inr (some (0, 0, 0))), (1, .inl v1), (2, .inl v2), (3, .inl v3), (4, .inl v4), (5, .inl s.1)] [] ids mG s.2 0 0 Rt := by
  refine px_it_rule (f := Mo_bestOff_L83 v1 v2 v3 v4) (C := fun s => pw l (px_R 9) y_Mo_bestOff c_Mo_bestOff 6 (some .int) 83 [(0, .inr (some (0, 0, 0))), (1, .inl v1), (2, .inl v2), (3, .inl v3), (4, .inl v4), (5, .inl s.1)] [] ids mG s.2 0 0 Rt) (X := fun e => (pw l (px_R 9) y_Mo_bestOff c_Mo_bestOff 6 (some .int) 99 [(0, .inr (some (0, 0, 0))), (1, .inl v1), (2, .inl v2), (3, .inl v3), (4, .inl v4)] [] ids mG e 0 0 Rt)) ?_ ?_ n s e h hX0
  · intro s s1 hf hC
    exact Mo_bestOff_n83_l hf (fun s2 hs => by cases hs; exact hC) (fun e he => by cases he)
  · intro s e hf hX
    exact Mo_bestOff_n83_l hf (fun s2 hs => by cases hs) (fun e1 he => by cases he; exact hX)
def Mo_bestOff_n137 (σ : pxS) (v1 : Int32) (v2 : Int32) (v3 : Int32) (v4 : Int32) : Option ((Int32 × Int32 × Int32 × pxS) ⊕ (Int32 × pxS)) :=
  some (.inl (v2, v3, (v4 + 1), σ))
set_option maxRecDepth 100000 in
theorem Mo_bestOff_n137_l {l : Launch} {ids : List pxI} {Rt : Option pxV → List pxI → pxG → pxS → Prop} {σ : pxS} {v1 : Int32} {v2 : Int32} {v3 : Int32} {v4 : Int32} {o : (Int32 × Int32 × Int32 × pxS) ⊕ (Int32 × pxS)} (h : Mo_bestOff_n137 σ v1 v2 v3 v4 = some o) (hC : ∀ s, o = .inl s → pw l (px_R 9) y_Mo_bestOff c_Mo_bestOff 6 (some .int) 41 [(0, .inr (some (0, 0, 0))), (1, .inl v1), (2, .inl s.1), (3, .inl s.2.1), (4, .inl s.2.2.1)] [] ids mG s.2.2.2 0 0 Rt) (hX0 : ∀ e, o = .inr e → pw l (px_R 9) y_Mo_bestOff c_Mo_bestOff 6 (some .int) 143 [(2, .inl e.1)] [] ids mG e.2 0 0 Rt) : pw l (px_R 9) y_Mo_bestOff c_Mo_bestOff 6 (some .int) 137 [(0, .inr (some (0, 0, 0))), (1, .inl v1), (2, .inl v2), (3, .inl v3), (4, .inl v4)] [] ids mG σ 0 0 Rt := by
  unfold Mo_bestOff_n137 at h
  refine pw_iinc (q := 4) (v := (v4 + 1)) (L' := [(4, .inl (v4 + 1)), (0, .inr (some (0, 0, 0))), (1, .inl v1), (2, .inl v2), (3, .inl v3)]) (px_at td_Mo_bestOff 72 rfl) rfl rfl (by decide) rfl ?_
  refine pw_goto 41 (px_at td_Mo_bestOff 73 rfl) (by decide) ?_
  refine pw_L [(0, .inr (some (0, 0, 0))), (1, .inl v1), (2, .inl v2), (3, .inl v3), (4, .inl (v4 + 1))] [1, 2, 3, 4, 0] rfl ?_
  exact hC (v2, v3, (v4 + 1), σ) (Option.some.inj h).symm
def Mo_bestOff_n73 (σ : pxS) (v1 : Int32) (v2 : Int32) (v3 : Int32) (v4 : Int32) : Option ((Int32 × Int32 × Int32 × pxS) ⊕ (Int32 × pxS)) :=
  px_b1 (F_Mo_asks σ v4 1) fun σ5 =>
  px_b1 (px_it (Mo_bestOff_L83 v1 v2 v3 v4) px_N (0, σ5)) fun e8 =>
  px_b1 (F_Mo_copies_29_28 e8 0 0) fun σ9 =>
  (if (e8 (1, 28, 0) 186) < v3 then Mo_bestOff_n137 σ9 v1 v4 (e8 (1, 28, 0) 186) v4 else Mo_bestOff_n137 σ9 v1 v2 v3 v4)
set_option maxRecDepth 100000 in
theorem Mo_bestOff_n73_l {l : Launch} {ids : List pxI} {Rt : Option pxV → List pxI → pxG → pxS → Prop} {σ : pxS} {v1 : Int32} {v2 : Int32} {v3 : Int32} {v4 : Int32} {o : (Int32 × Int32 × Int32 × pxS) ⊕ (Int32 × pxS)} (h : Mo_bestOff_n73 σ v1 v2 v3 v4 = some o) (hC : ∀ s, o = .inl s → pw l (px_R 9) y_Mo_bestOff c_Mo_bestOff 6 (some .int) 41 [(0, .inr (some (0, 0, 0))), (1, .inl v1), (2, .inl s.1), (3, .inl s.2.1), (4, .inl s.2.2.1)] [] ids mG s.2.2.2 0 0 Rt) (hX0 : ∀ e, o = .inr e → pw l (px_R 9) y_Mo_bestOff c_Mo_bestOff 6 (some .int) 143 [(2, .inl e.1)] [] ids mG e.2 0 0 Rt) : pw l (px_R 9) y_Mo_bestOff c_Mo_bestOff 6 (some .int) 73 [(0, .inr (some (0, 0, 0))), (1, .inl v1), (2, .inl v2), (3, .inl v3), (4, .inl v4)] [] ids mG σ 0 0 Rt := by
  unfold Mo_bestOff_n73 at h
  refine pw_aload_n 0 (px_at td_Mo_bestOff 39 rfl) rfl rfl ?_
  refine pw_iload 4 (px_at td_Mo_bestOff 40 rfl) rfl ?_
  refine pw_iconst (v := 1) (px_at td_Mo_bestOff 41 rfl) (by decide) ?_
  obtain ⟨σ5, hk5, h⟩ := px_b1_e h
  refine pw_cV0 (0, 0, 0) [.inl v4, .inl 1] [] (px_at td_Mo_bestOff 42 rfl) lV_Mo_262 rfl rfl rfl (Nat.le_of_ble_eq_true rfl) (by decide) (k_Mo_asks hk5) ?_
  refine pw_iconst (v := 0) (px_at td_Mo_bestOff 43 rfl) (by decide) ?_
  refine pw_istore (L' := [(5, .inl 0), (0, .inr (some (0, 0, 0))), (1, .inl v1), (2, .inl v2), (3, .inl v3), (4, .inl v4)]) (px_at td_Mo_bestOff 44 rfl) (by decide) rfl ?_
  obtain ⟨e8, he8, h⟩ := px_b1_e h
  refine pw_L [(0, .inr (some (0, 0, 0))), (1, .inl v1), (2, .inl v2), (3, .inl v3), (4, .inl v4), (5, .inl 0)] [1, 2, 3, 4, 5, 0] rfl ?_
  refine Mo_bestOff_L83_l he8 ?_
  refine pw_aload_n 0 (px_at td_Mo_bestOff 52 rfl) rfl rfl ?_
  refine pw_getf (v := .inr (some (1, 28, 0))) (px_at td_Mo_bestOff 53 rfl) lf_Mo_63 rfl rfl rfl ?_
  refine pw_sipush (v := 186) (px_at td_Mo_bestOff 54 rfl) (by decide) ?_
  refine pw_ial (px_at td_Mo_bestOff 55 rfl) rfl (px_inL (by decide) px_z186 (by decide)) px_z186 ?_
  refine pw_istore (L' := [(5, .inl (e8 (1, 28, 0) 186)), (0, .inr (some (0, 0, 0))), (1, .inl v1), (2, .inl v2), (3, .inl v3), (4, .inl v4)]) (px_at td_Mo_bestOff 56 rfl) (by decide) rfl ?_
  refine pw_aload_n 1 (px_at td_Mo_bestOff 57 rfl) rfl rfl ?_
  refine pw_getf (v := .inr (some (1, 29, 0))) (px_at td_Mo_bestOff 58 rfl) lf_Mo_66 rfl rfl rfl ?_
  refine pw_iconst (v := 0) (px_at td_Mo_bestOff 59 rfl) (by decide) ?_
  refine pw_aload_n 1 (px_at td_Mo_bestOff 60 rfl) rfl rfl ?_
  refine pw_getf (v := .inr (some (1, 28, 0))) (px_at td_Mo_bestOff 61 rfl) lf_Mo_63 rfl rfl rfl ?_
  refine pw_iconst (v := 0) (px_at td_Mo_bestOff 62 rfl) (by decide) ?_
  obtain ⟨σ9, hk9, h⟩ := px_b1_e h
  refine pw_cS0 [.inr (some (1, 29, 0)), .inl 0, .inr (some (1, 28, 0)), .inl 0] [] (px_at td_Mo_bestOff 63 rfl) lS_Mo_226 rfl rfl (Nat.le_of_ble_eq_true rfl) (by decide) (k_Mo_copies_29_28 hk9) ?_
  refine pw_iload 0 (px_at td_Mo_bestOff 64 rfl) rfl ?_
  refine pw_iload_n 4 (px_at td_Mo_bestOff 65 rfl) rfl rfl ?_
  rcases px_ite h with ⟨hc10, h⟩ | ⟨hc10, h⟩
  · refine pw_icmp_lt 131 (px_at td_Mo_bestOff 66 rfl) (by decide) (fun _ => ?_) (fun hn => absurd hc10 hn)
    refine pw_iload 5 (px_at td_Mo_bestOff 68 rfl) rfl ?_
    refine pw_istore_n (L' := [(2, .inl v4), (5, .inl (e8 (1, 28, 0) 186)), (0, .inr (some (0, 0, 0))), (1, .inl v1), (3, .inl v3), (4, .inl v4)]) (px_at td_Mo_bestOff 69 rfl) rfl (by decide) rfl ?_
    refine pw_iload 1 (px_at td_Mo_bestOff 70 rfl) rfl ?_
    refine pw_istore_n (L' := [(3, .inl (e8 (1, 28, 0) 186)), (2, .inl v4), (5, .inl (e8 (1, 28, 0) 186)), (0, .inr (some (0, 0, 0))), (1, .inl v1), (4, .inl v4)]) (px_at td_Mo_bestOff 71 rfl) rfl (by decide) rfl ?_
    refine pw_L [(0, .inr (some (0, 0, 0))), (1, .inl v1), (2, .inl v4), (3, .inl (e8 (1, 28, 0) 186)), (4, .inl v4)] [3, 4, 1, 0, 5] rfl ?_
    exact Mo_bestOff_n137_l h hC hX0
  · refine pw_icmp_lt 131 (px_at td_Mo_bestOff 66 rfl) (by decide) (fun hn => absurd hn hc10) (fun _ => ?_)
    refine pw_goto 137 (px_at td_Mo_bestOff 67 rfl) (by decide) ?_
    refine pw_L [(0, .inr (some (0, 0, 0))), (1, .inl v1), (2, .inl v2), (3, .inl v3), (4, .inl v4)] [1, 2, 3, 4, 5] rfl ?_
    exact Mo_bestOff_n137_l h hC hX0
def Mo_bestOff_n41 (σ : pxS) (v1 : Int32) (v2 : Int32) (v3 : Int32) (v4 : Int32) : Option ((Int32 × Int32 × Int32 × pxS) ⊕ (Int32 × pxS)) :=
  px_b1 (F_Mo_rails σ ) fun r3 =>
  (if r3 ≤ v4 then some (.inr (v2, σ)) else px_b1 (F_Mo_state σ v4) fun r4 =>
  (if r4 = 2 then Mo_bestOff_n73 σ v1 v2 v3 v4 else px_b1 (F_Mo_state σ v4) fun r11 =>
  (if r11 = 3 then Mo_bestOff_n73 σ v1 v2 v3 v4 else Mo_bestOff_n137 σ v1 v2 v3 v4)))
set_option maxRecDepth 100000 in
theorem Mo_bestOff_n41_l {l : Launch} {ids : List pxI} {Rt : Option pxV → List pxI → pxG → pxS → Prop} {σ : pxS} {v1 : Int32} {v2 : Int32} {v3 : Int32} {v4 : Int32} {o : (Int32 × Int32 × Int32 × pxS) ⊕ (Int32 × pxS)} (h : Mo_bestOff_n41 σ v1 v2 v3 v4 = some o) (hC : ∀ s, o = .inl s → pw l (px_R 9) y_Mo_bestOff c_Mo_bestOff 6 (some .int) 41 [(0, .inr (some (0, 0, 0))), (1, .inl v1), (2, .inl s.1), (3, .inl s.2.1), (4, .inl s.2.2.1)] [] ids mG s.2.2.2 0 0 Rt) (hX0 : ∀ e, o = .inr e → pw l (px_R 9) y_Mo_bestOff c_Mo_bestOff 6 (some .int) 143 [(2, .inl e.1)] [] ids mG e.2 0 0 Rt) : pw l (px_R 9) y_Mo_bestOff c_Mo_bestOff 6 (some .int) 41 [(0, .inr (some (0, 0, 0))), (1, .inl v1), (2, .inl v2), (3, .inl v3), (4, .inl v4)] [] ids mG σ 0 0 Rt := by
  unfold Mo_bestOff_n41 at h
  refine pw_iload 4 (px_at td_Mo_bestOff 24 rfl) rfl ?_
  refine pw_aload_n 0 (px_at td_Mo_bestOff 25 rfl) rfl rfl ?_
  obtain ⟨r3, hk3, h⟩ := px_b1_e h
  refine pw_cV1 (0, 0, 0) [] [.inl v4] (px_at td_Mo_bestOff 26 rfl) lV_Mo_223 rfl rfl rfl (Nat.le_of_ble_eq_true rfl) (by decide) (k_Mo_rails hk3) ?_
  rcases px_ite h with ⟨hc14, h⟩ | ⟨hc14, h⟩
  · refine pw_icmp_ge 143 (px_at td_Mo_bestOff 27 rfl) (by decide) (fun _ => ?_) (fun hn => absurd hc14 hn)
    refine pw_L [(2, .inl v2)] [2] rfl ?_
    exact hX0 (v2, σ) (Option.some.inj h).symm
  · refine pw_icmp_ge 143 (px_at td_Mo_bestOff 27 rfl) (by decide) (fun hn => absurd hn hc14) (fun _ => ?_)
    refine pw_aload_n 0 (px_at td_Mo_bestOff 28 rfl) rfl rfl ?_
    refine pw_iload 4 (px_at td_Mo_bestOff 29 rfl) rfl ?_
    obtain ⟨r4, hk4, h⟩ := px_b1_e h
    refine pw_cV1 (0, 0, 0) [.inl v4] [] (px_at td_Mo_bestOff 30 rfl) lV_Mo_230 rfl rfl rfl (Nat.le_of_ble_eq_true rfl) (by decide) (k_Mo_state hk4) ?_
    refine pw_iconst (v := 2) (px_at td_Mo_bestOff 31 rfl) (by decide) ?_
    rcases px_ite h with ⟨hc13, h⟩ | ⟨hc13, h⟩
    · refine pw_icmp_eq 73 (px_at td_Mo_bestOff 32 rfl) (by decide) (fun _ => ?_) (fun hn => absurd hc13 hn)
      exact Mo_bestOff_n73_l h hC hX0
    · refine pw_icmp_eq 73 (px_at td_Mo_bestOff 32 rfl) (by decide) (fun hn => absurd hn hc13) (fun _ => ?_)
      refine pw_aload_n 0 (px_at td_Mo_bestOff 33 rfl) rfl rfl ?_
      refine pw_iload 4 (px_at td_Mo_bestOff 34 rfl) rfl ?_
      obtain ⟨r11, hk11, h⟩ := px_b1_e h
      refine pw_cV1 (0, 0, 0) [.inl v4] [] (px_at td_Mo_bestOff 35 rfl) lV_Mo_230 rfl rfl rfl (Nat.le_of_ble_eq_true rfl) (by decide) (k_Mo_state hk11) ?_
      refine pw_iconst (v := 3) (px_at td_Mo_bestOff 36 rfl) (by decide) ?_
      rcases px_ite h with ⟨hc12, h⟩ | ⟨hc12, h⟩
      · refine pw_icmp_eq 73 (px_at td_Mo_bestOff 37 rfl) (by decide) (fun _ => ?_) (fun hn => absurd hc12 hn)
        exact Mo_bestOff_n73_l h hC hX0
      · refine pw_icmp_eq 73 (px_at td_Mo_bestOff 37 rfl) (by decide) (fun hn => absurd hn hc12) (fun _ => ?_)
        refine pw_goto 137 (px_at td_Mo_bestOff 38 rfl) (by decide) ?_
        exact Mo_bestOff_n137_l h hC hX0
def Mo_bestOff_L41 (v1 : Int32) : (Int32 × Int32 × Int32 × pxS) → Option ((Int32 × Int32 × Int32 × pxS) ⊕ (Int32 × pxS)) := fun s => Mo_bestOff_n41 s.2.2.2 v1 s.1 s.2.1 s.2.2.1
set_option maxRecDepth 100000 in
theorem Mo_bestOff_L41_l {l : Launch} {ids : List pxI} {Rt : Option pxV → List pxI → pxG → pxS → Prop} {v1 : Int32} {n : Nat} {s : Int32 × Int32 × Int32 × pxS} {e : Int32 × pxS} (h : px_it (Mo_bestOff_L41 v1) n s = some e) (hX0 : pw l (px_R 9) y_Mo_bestOff c_Mo_bestOff 6 (some .int) 143 [(2, .inl e.1)] [] ids mG e.2 0 0 Rt) : pw l (px_R 9) y_Mo_bestOff c_Mo_bestOff 6 (some .int) 41 [(0, .inr (some (0, 0, 0))), (1, .inl v1), (2, .inl s.1), (3, .inl s.2.1), (4, .inl s.2.2.1)] [] ids mG s.2.2.2 0 0 Rt := by
  refine px_it_rule (f := Mo_bestOff_L41 v1) (C := fun s => pw l (px_R 9) y_Mo_bestOff c_Mo_bestOff 6 (some .int) 41 [(0, .inr (some (0, 0, 0))), (1, .inl v1), (2, .inl s.1), (3, .inl s.2.1), (4, .inl s.2.2.1)] [] ids mG s.2.2.2 0 0 Rt) (X := fun e => (pw l (px_R 9) y_Mo_bestOff c_Mo_bestOff 6 (some .int) 143 [(2, .inl e.1)] [] ids mG e.2 0 0 Rt)) ?_ ?_ n s e h hX0
  · intro s s1 hf hC
    exact Mo_bestOff_n41_l hf (fun s2 hs => by cases hs; exact hC) (fun e he => by cases he)
  · intro s e hf hX
    exact Mo_bestOff_n41_l hf (fun s2 hs => by cases hs) (fun e1 he => by cases he; exact hX)
def F_Mo_bestOff (σ : pxS) (v1 : Int32) : Option (Int32 × pxS) :=
  px_l (px_up σ (0, 0, 0) 0 0) fun σ1 =>
  (if v1 < 1 then Mo_bestOff_n16 σ1  else (if v1 ≤ 60 then px_b1 (F_Mo_copies_28_29 σ1 0 0) fun σ2 =>
  px_b1 (px_it (Mo_bestOff_L41 v1) px_N ((-2), 268435456, 0, σ2)) fun e15 =>
  some (e15.1, e15.2) else Mo_bestOff_n16 σ1 ))
set_option maxRecDepth 100000 in
theorem e_Mo_bestOff {l : Launch} {ids : List pxI} {Rt : Option pxV → List pxI → pxG → pxS → Prop} {σ : pxS} {v1 : Int32} {res : Int32 × pxS} (h : F_Mo_bestOff σ v1 = some res) (hR : Rt (some (.inl res.1)) ids mG res.2) : pw l (px_R 9) y_Mo_bestOff c_Mo_bestOff 6 (some .int) 0 [(0, .inr (some (0, 0, 0))), (1, .inl v1)] [] ids mG σ 0 0 Rt := by
  unfold F_Mo_bestOff at h
  refine pw_aload_n 0 (px_at td_Mo_bestOff 0 rfl) rfl rfl ?_
  refine pw_iconst (v := 0) (px_at td_Mo_bestOff 1 rfl) (by decide) ?_
  obtain ⟨σ1, hσ1, h⟩ := px_l_e h
  refine pw_puti (px_at td_Mo_bestOff 2 rfl) lw_Mo_99 rfl rfl (pw_s hσ1 ?_)
  refine pw_iload_n 1 (px_at td_Mo_bestOff 3 rfl) rfl rfl ?_
  refine pw_iconst (v := 1) (px_at td_Mo_bestOff 4 rfl) (by decide) ?_
  rcases px_ite h with ⟨hc17, h⟩ | ⟨hc17, h⟩
  · refine pw_icmp_lt 16 (px_at td_Mo_bestOff 5 rfl) (by decide) (fun _ => ?_) (fun hn => absurd hc17 hn)
    refine pw_L [] [] rfl ?_
    exact Mo_bestOff_n16_l h hR
  · refine pw_icmp_lt 16 (px_at td_Mo_bestOff 5 rfl) (by decide) (fun hn => absurd hn hc17) (fun _ => ?_)
    refine pw_iload_n 1 (px_at td_Mo_bestOff 6 rfl) rfl rfl ?_
    refine pw_bipush (v := 60) (px_at td_Mo_bestOff 7 rfl) (by decide) ?_
    rcases px_ite h with ⟨hc16, h⟩ | ⟨hc16, h⟩
    · refine pw_icmp_le 18 (px_at td_Mo_bestOff 8 rfl) (by decide) (fun _ => ?_) (fun hn => absurd hc16 hn)
      refine pw_bipush (v := (-2)) (px_at td_Mo_bestOff 11 rfl) (by decide) ?_
      refine pw_istore_n (L' := [(2, .inl (-2)), (0, .inr (some (0, 0, 0))), (1, .inl v1)]) (px_at td_Mo_bestOff 12 rfl) rfl (by decide) rfl ?_
      refine pw_ldcw (v := 268435456) (px_at td_Mo_bestOff 13 rfl) lc_Mo_315 ?_
      refine pw_istore_n (L' := [(3, .inl 268435456), (2, .inl (-2)), (0, .inr (some (0, 0, 0))), (1, .inl v1)]) (px_at td_Mo_bestOff 14 rfl) rfl (by decide) rfl ?_
      refine pw_aload_n 2 (px_at td_Mo_bestOff 15 rfl) rfl rfl ?_
      refine pw_getf (v := .inr (some (1, 28, 0))) (px_at td_Mo_bestOff 16 rfl) lf_Mo_63 rfl rfl rfl ?_
      refine pw_iconst (v := 0) (px_at td_Mo_bestOff 17 rfl) (by decide) ?_
      refine pw_aload_n 2 (px_at td_Mo_bestOff 18 rfl) rfl rfl ?_
      refine pw_getf (v := .inr (some (1, 29, 0))) (px_at td_Mo_bestOff 19 rfl) lf_Mo_66 rfl rfl rfl ?_
      refine pw_iconst (v := 0) (px_at td_Mo_bestOff 20 rfl) (by decide) ?_
      obtain ⟨σ2, hk2, h⟩ := px_b1_e h
      refine pw_cS0 [.inr (some (1, 28, 0)), .inl 0, .inr (some (1, 29, 0)), .inl 0] [] (px_at td_Mo_bestOff 21 rfl) lS_Mo_226 rfl rfl (Nat.le_of_ble_eq_true rfl) (by decide) (k_Mo_copies_28_29 hk2) ?_
      refine pw_iconst (v := 0) (px_at td_Mo_bestOff 22 rfl) (by decide) ?_
      refine pw_istore (L' := [(4, .inl 0), (3, .inl 268435456), (2, .inl (-2)), (0, .inr (some (0, 0, 0))), (1, .inl v1)]) (px_at td_Mo_bestOff 23 rfl) (by decide) rfl ?_
      obtain ⟨e15, he15, h⟩ := px_b1_e h
      refine pw_L [(0, .inr (some (0, 0, 0))), (1, .inl v1), (2, .inl (-2)), (3, .inl 268435456), (4, .inl 0)] [3, 4, 2, 1, 0] rfl ?_
      refine Mo_bestOff_L41_l he15 ?_
      refine pw_iload_n 0 (px_at td_Mo_bestOff 74 rfl) rfl rfl ?_
      obtain rfl := Option.some.inj h
      exact pw_iret (px_at td_Mo_bestOff 75 rfl) rfl (Nat.le_refl 0) (Nat.le_refl 0) hR
    · refine pw_icmp_le 18 (px_at td_Mo_bestOff 8 rfl) (by decide) (fun hn => absurd hn hc16) (fun _ => ?_)
      refine pw_L [] [] rfl ?_
      exact Mo_bestOff_n16_l h hR
theorem k_Mo_bestOff {l : Launch} {ids : List pxI} {σ : pxS} {v1 : Int32} {res : Int32 × pxS} (h : F_Mo_bestOff σ v1 = some res) : pm l y_Mo_bestOff c_Mo_bestOff 6 (some .int) (px_R 9) [.inr (some (0, 0, 0)), .inl v1] ids mG σ (px_r (some (.inl res.1)) ids mG res.2) :=
  pm_ofF (by decide +kernel) (Nat.le_of_ble_eq_true rfl) (e_Mo_bestOff h ⟨rfl, rfl, rfl, rfl⟩)
/-! Mo_draw -/
def F_Mo_draw (σ : pxS) (v1 : Int32) : Option (Int32 × pxS) :=
  px_l (px_up σ (0, 0, 0) 40 ((((σ (0, 0, 0) 40) * 1103515245) + 12345) &&& 2147483647)) fun σ1 =>
  px_gz v1 (some ((((σ1 (0, 0, 0) 40) >>> (16 &&& 31)) - ((σ1 (0, 0, 0) 40) >>> (16 &&& 31)) / v1 * v1), σ1))
set_option maxRecDepth 100000 in
theorem e_Mo_draw {l : Launch} {ids : List pxI} {Rt : Option pxV → List pxI → pxG → pxS → Prop} {σ : pxS} {v1 : Int32} {res : Int32 × pxS} (h : F_Mo_draw σ v1 = some res) (hR : Rt (some (.inl res.1)) ids mG res.2) : pw l (px_R 1) y_Mo_draw c_Mo_draw 2 (some .int) 0 [(0, .inr (some (0, 0, 0))), (1, .inl v1)] [] ids mG σ 0 0 Rt := by
  unfold F_Mo_draw at h
  refine pw_aload_n 0 (px_at td_Mo_draw 0 rfl) rfl rfl ?_
  refine pw_aload_n 0 (px_at td_Mo_draw 1 rfl) rfl rfl ?_
  refine pw_getf (v := .inl (σ (0, 0, 0) 40)) (px_at td_Mo_draw 2 rfl) lf_Mo_336 rfl rfl rfl ?_
  refine pw_ldcw (v := 1103515245) (px_at td_Mo_draw 3 rfl) lc_Mo_339 ?_
  refine pw_imul (px_at td_Mo_draw 4 rfl) ?_
  refine pw_sipush (v := 12345) (px_at td_Mo_draw 5 rfl) (by decide) ?_
  refine pw_iadd (px_at td_Mo_draw 6 rfl) ?_
  refine pw_ldcw (v := 2147483647) (px_at td_Mo_draw 7 rfl) lc_Mo_340 ?_
  refine pw_iand (px_at td_Mo_draw 8 rfl) ?_
  obtain ⟨σ1, hσ1, h⟩ := px_l_e h
  refine pw_puti (px_at td_Mo_draw 9 rfl) lw_Mo_336 rfl rfl (pw_s hσ1 ?_)
  refine pw_aload_n 0 (px_at td_Mo_draw 10 rfl) rfl rfl ?_
  refine pw_getf (v := .inl (σ1 (0, 0, 0) 40)) (px_at td_Mo_draw 11 rfl) lf_Mo_336 rfl rfl rfl ?_
  refine pw_bipush (v := 16) (px_at td_Mo_draw 12 rfl) (by decide) ?_
  refine pw_ishr (px_at td_Mo_draw 13 rfl) ?_
  refine pw_iload_n 1 (px_at td_Mo_draw 14 rfl) rfl rfl ?_
  obtain ⟨hz2, h⟩ := px_gz_e h
  refine pw_irem (px_at td_Mo_draw 15 rfl) hz2 ?_
  obtain rfl := Option.some.inj h
  exact pw_iret (px_at td_Mo_draw 16 rfl) rfl (Nat.le_refl 0) (Nat.le_refl 0) hR
theorem k_Mo_draw {l : Launch} {ids : List pxI} {σ : pxS} {v1 : Int32} {res : Int32 × pxS} (h : F_Mo_draw σ v1 = some res) : pm l y_Mo_draw c_Mo_draw 2 (some .int) (px_R 1) [.inr (some (0, 0, 0)), .inl v1] ids mG σ (px_r (some (.inl res.1)) ids mG res.2) :=
  pm_ofF (by decide +kernel) (Nat.le_of_ble_eq_true rfl) (e_Mo_draw h ⟨rfl, rfl, rfl, rfl⟩)
/-! Mo_tripsAll -/
def Mo_tripsAll_n4 (σ : pxS) (v1 : Int32) (v2 : Int32) : Option ((Int32 × Int32) ⊕ (Int32)) :=
  px_b1 (F_Mo_rails σ ) fun r1 =>
  (if r1 ≤ v2 then some (.inr v1) else px_gd ((13 * v2) + 5) 308 (some (.inl ((v1 + (σ (1, 28, 0) ((13 * v2) + 5).toNatClampNeg)), (v2 + 1)))))
set_option maxRecDepth 100000 in
theorem Mo_tripsAll_n4_l {l : Launch} {ids : List pxI} {Rt : Option pxV → List pxI → pxG → pxS → Prop} {σ : pxS} {v1 : Int32} {v2 : Int32} {o : (Int32 × Int32) ⊕ (Int32)} (h : Mo_tripsAll_n4 σ v1 v2 = some o) (hC : ∀ s, o = .inl s → pw l (px_R 2) y_Mo_tripsAll c_Mo_tripsAll 3 (some .int) 4 [(0, .inr (some (0, 0, 0))), (1, .inl s.1), (2, .inl s.2)] [] ids mG σ 0 0 Rt) (hX0 : ∀ e, o = .inr e → pw l (px_R 2) y_Mo_tripsAll c_Mo_tripsAll 3 (some .int) 32 [(1, .inl e)] [] ids mG σ 0 0 Rt) : pw l (px_R 2) y_Mo_tripsAll c_Mo_tripsAll 3 (some .int) 4 [(0, .inr (some (0, 0, 0))), (1, .inl v1), (2, .inl v2)] [] ids mG σ 0 0 Rt := by
  unfold Mo_tripsAll_n4 at h
  refine pw_iload_n 2 (px_at td_Mo_tripsAll 4 rfl) rfl rfl ?_
  refine pw_aload_n 0 (px_at td_Mo_tripsAll 5 rfl) rfl rfl ?_
  obtain ⟨r1, hk1, h⟩ := px_b1_e h
  refine pw_cV1 (0, 0, 0) [] [.inl v2] (px_at td_Mo_tripsAll 6 rfl) lV_Mo_223 rfl rfl rfl (Nat.le_of_ble_eq_true rfl) (by decide) (k_Mo_rails hk1) ?_
  rcases px_ite h with ⟨hc3, h⟩ | ⟨hc3, h⟩
  · refine pw_icmp_ge 32 (px_at td_Mo_tripsAll 7 rfl) (by decide) (fun _ => ?_) (fun hn => absurd hc3 hn)
    refine pw_L [(1, .inl v1)] [1] rfl ?_
    exact hX0 v1 (Option.some.inj h).symm
  · refine pw_icmp_ge 32 (px_at td_Mo_tripsAll 7 rfl) (by decide) (fun hn => absurd hn hc3) (fun _ => ?_)
    refine pw_iload_n 1 (px_at td_Mo_tripsAll 8 rfl) rfl rfl ?_
    refine pw_aload_n 0 (px_at td_Mo_tripsAll 9 rfl) rfl rfl ?_
    refine pw_getf (v := .inr (some (1, 28, 0))) (px_at td_Mo_tripsAll 10 rfl) lf_Mo_63 rfl rfl rfl ?_
    refine pw_bipush (v := 13) (px_at td_Mo_tripsAll 11 rfl) (by decide) ?_
    refine pw_iload_n 2 (px_at td_Mo_tripsAll 12 rfl) rfl rfl ?_
    refine pw_imul (px_at td_Mo_tripsAll 13 rfl) ?_
    refine pw_iconst (v := 5) (px_at td_Mo_tripsAll 14 rfl) (by decide) ?_
    refine pw_iadd (px_at td_Mo_tripsAll 15 rfl) ?_
    obtain ⟨hi2, h⟩ := px_gd_e h
    refine pw_ial (px_at td_Mo_tripsAll 16 rfl) rfl hi2 rfl ?_
    refine pw_iadd (px_at td_Mo_tripsAll 17 rfl) ?_
    refine pw_istore_n (L' := [(1, .inl (v1 + (σ (1, 28, 0) ((13 * v2) + 5).toNatClampNeg))), (0, .inr (some (0, 0, 0))), (2, .inl v2)]) (px_at td_Mo_tripsAll 18 rfl) rfl (by decide) rfl ?_
    refine pw_iinc (q := 2) (v := (v2 + 1)) (L' := [(2, .inl (v2 + 1)), (1, .inl (v1 + (σ (1, 28, 0) ((13 * v2) + 5).toNatClampNeg))), (0, .inr (some (0, 0, 0)))]) (px_at td_Mo_tripsAll 19 rfl) rfl rfl (by decide) rfl ?_
    refine pw_goto 4 (px_at td_Mo_tripsAll 20 rfl) (by decide) ?_
    refine pw_L [(0, .inr (some (0, 0, 0))), (1, .inl (v1 + (σ (1, 28, 0) ((13 * v2) + 5).toNatClampNeg))), (2, .inl (v2 + 1))] [2, 1, 0] rfl ?_
    exact hC ((v1 + (σ (1, 28, 0) ((13 * v2) + 5).toNatClampNeg)), (v2 + 1)) (Option.some.inj h).symm
def Mo_tripsAll_L4 (σ : pxS) : (Int32 × Int32) → Option ((Int32 × Int32) ⊕ (Int32)) := fun s => Mo_tripsAll_n4 σ s.1 s.2
set_option maxRecDepth 100000 in
theorem Mo_tripsAll_L4_l {l : Launch} {ids : List pxI} {Rt : Option pxV → List pxI → pxG → pxS → Prop} {σ : pxS} {n : Nat} {s : Int32 × Int32} {e : Int32} (h : px_it (Mo_tripsAll_L4 σ) n s = some e) (hX0 : pw l (px_R 2) y_Mo_tripsAll c_Mo_tripsAll 3 (some .int) 32 [(1, .inl e)] [] ids mG σ 0 0 Rt) : pw l (px_R 2) y_Mo_tripsAll c_Mo_tripsAll 3 (some .int) 4 [(0, .inr (some (0, 0, 0))), (1, .inl s.1), (2, .inl s.2)] [] ids mG σ 0 0 Rt := by
  refine px_it_rule (f := Mo_tripsAll_L4 σ) (C := fun s => pw l (px_R 2) y_Mo_tripsAll c_Mo_tripsAll 3 (some .int) 4 [(0, .inr (some (0, 0, 0))), (1, .inl s.1), (2, .inl s.2)] [] ids mG σ 0 0 Rt) (X := fun e => (pw l (px_R 2) y_Mo_tripsAll c_Mo_tripsAll 3 (some .int) 32 [(1, .inl e)] [] ids mG σ 0 0 Rt)) ?_ ?_ n s e h hX0
  · intro s s1 hf hC
    exact Mo_tripsAll_n4_l hf (fun s2 hs => by cases hs; exact hC) (fun e he => by cases he)
  · intro s e hf hX
    exact Mo_tripsAll_n4_l hf (fun s2 hs => by cases hs) (fun e1 he => by cases he; exact hX)
def F_Mo_tripsAll (σ : pxS)  : Option (Int32) :=
  px_b1 (px_it (Mo_tripsAll_L4 σ) px_N (0, 0)) fun e4 =>
  some (e4)
set_option maxRecDepth 100000 in
theorem e_Mo_tripsAll {l : Launch} {ids : List pxI} {Rt : Option pxV → List pxI → pxG → pxS → Prop} {σ : pxS}  {res : Int32} (h : F_Mo_tripsAll σ  = some res) (hR : Rt (some (.inl res)) ids mG σ) : pw l (px_R 2) y_Mo_tripsAll c_Mo_tripsAll 3 (some .int) 0 [(0, .inr (some (0, 0, 0)))] [] ids mG σ 0 0 Rt := by
  unfold F_Mo_tripsAll at h
  refine pw_iconst (v := 0) (px_at td_Mo_tripsAll 0 rfl) (by decide) ?_
  refine pw_istore_n (L' := [(1, .inl 0), (0, .inr (some (0, 0, 0)))]) (px_at td_Mo_tripsAll 1 rfl) rfl (by decide) rfl ?_
  refine pw_iconst (v := 0) (px_at td_Mo_tripsAll 2 rfl) (by decide) ?_
  refine pw_istore_n (L' := [(2, .inl 0), (1, .inl 0), (0, .inr (some (0, 0, 0)))]) (px_at td_Mo_tripsAll 3 rfl) rfl (by decide) rfl ?_
  obtain ⟨e4, he4, h⟩ := px_b1_e h
  refine pw_L [(0, .inr (some (0, 0, 0))), (1, .inl 0), (2, .inl 0)] [2, 1, 0] rfl ?_
  refine Mo_tripsAll_L4_l he4 ?_
  refine pw_iload_n 0 (px_at td_Mo_tripsAll 21 rfl) rfl rfl ?_
  obtain rfl := Option.some.inj h
  exact pw_iret (px_at td_Mo_tripsAll 22 rfl) rfl (Nat.le_refl 0) (Nat.le_refl 0) hR
theorem k_Mo_tripsAll {l : Launch} {ids : List pxI} {σ : pxS}  {res : Int32} (h : F_Mo_tripsAll σ  = some res) : pm l y_Mo_tripsAll c_Mo_tripsAll 3 (some .int) (px_R 2) [.inr (some (0, 0, 0))] ids mG σ (px_r (some (.inl res)) ids mG σ) :=
  pm_ofF (by decide +kernel) (Nat.le_of_ble_eq_true rfl) (e_Mo_tripsAll h ⟨rfl, rfl, rfl, rfl⟩)
/-! Mo_good -/
def Mo_good_n4 (σ : pxS) (v1 : Int32) (v2 : Int32) : Option ((Int32 × Int32) ⊕ (Int32)) :=
  px_b1 (F_Mo_rails σ ) fun r1 =>
  (if r1 ≤ v2 then some (.inr v1) else px_b1 (F_Mo_isGood σ v2) fun r2 =>
  (if r2 = 0 then some (.inl ((v1 ||| 0), (v2 + 1))) else some (.inl ((v1 ||| (1 <<< (v2 &&& 31))), (v2 + 1)))))
set_option maxRecDepth 100000 in
theorem Mo_good_n4_l {l : Launch} {ids : List pxI} {Rt : Option pxV → List pxI → pxG → pxS → Prop} {σ : pxS} {v1 : Int32} {v2 : Int32} {o : (Int32 × Int32) ⊕ (Int32)} (h : Mo_good_n4 σ v1 v2 = some o) (hC : ∀ s, o = .inl s → pw l (px_R 3) y_Mo_good c_Mo_good 3 (some .int) 4 [(0, .inr (some (0, 0, 0))), (1, .inl s.1), (2, .inl s.2)] [] ids mG σ 0 0 Rt) (hX0 : ∀ e, o = .inr e → pw l (px_R 3) y_Mo_good c_Mo_good 3 (some .int) 36 [(1, .inl e)] [] ids mG σ 0 0 Rt) : pw l (px_R 3) y_Mo_good c_Mo_good 3 (some .int) 4 [(0, .inr (some (0, 0, 0))), (1, .inl v1), (2, .inl v2)] [] ids mG σ 0 0 Rt := by
  unfold Mo_good_n4 at h
  refine pw_iload_n 2 (px_at td_Mo_good 4 rfl) rfl rfl ?_
  refine pw_aload_n 0 (px_at td_Mo_good 5 rfl) rfl rfl ?_
  obtain ⟨r1, hk1, h⟩ := px_b1_e h
  refine pw_cV1 (0, 0, 0) [] [.inl v2] (px_at td_Mo_good 6 rfl) lV_Mo_223 rfl rfl rfl (Nat.le_of_ble_eq_true rfl) (by decide) (k_Mo_rails hk1) ?_
  rcases px_ite h with ⟨hc4, h⟩ | ⟨hc4, h⟩
  · refine pw_icmp_ge 36 (px_at td_Mo_good 7 rfl) (by decide) (fun _ => ?_) (fun hn => absurd hc4 hn)
    refine pw_L [(1, .inl v1)] [1] rfl ?_
    exact hX0 v1 (Option.some.inj h).symm
  · refine pw_icmp_ge 36 (px_at td_Mo_good 7 rfl) (by decide) (fun hn => absurd hn hc4) (fun _ => ?_)
    refine pw_iload_n 1 (px_at td_Mo_good 8 rfl) rfl rfl ?_
    refine pw_aload_n 0 (px_at td_Mo_good 9 rfl) rfl rfl ?_
    refine pw_iload_n 2 (px_at td_Mo_good 10 rfl) rfl rfl ?_
    obtain ⟨r2, hk2, h⟩ := px_b1_e h
    refine pw_cV1 (0, 0, 0) [.inl v2] [.inl v1] (px_at td_Mo_good 11 rfl) lV_Mo_266 rfl rfl rfl (Nat.le_of_ble_eq_true rfl) (by decide) (k_Mo_isGood hk2) ?_
    rcases px_ite h with ⟨hc3, h⟩ | ⟨hc3, h⟩
    · refine pw_if_eq 27 (px_at td_Mo_good 12 rfl) (by decide) (fun _ => ?_) (fun hn => absurd hc3 hn)
      refine pw_iconst (v := 0) (px_at td_Mo_good 17 rfl) (by decide) ?_
      refine pw_ior (px_at td_Mo_good 18 rfl) ?_
      refine pw_istore_n (L' := [(1, .inl (v1 ||| 0)), (0, .inr (some (0, 0, 0))), (2, .inl v2)]) (px_at td_Mo_good 19 rfl) rfl (by decide) rfl ?_
      refine pw_iinc (q := 2) (v := (v2 + 1)) (L' := [(2, .inl (v2 + 1)), (1, .inl (v1 ||| 0)), (0, .inr (some (0, 0, 0)))]) (px_at td_Mo_good 20 rfl) rfl rfl (by decide) rfl ?_
      refine pw_goto 4 (px_at td_Mo_good 21 rfl) (by decide) ?_
      refine pw_L [(0, .inr (some (0, 0, 0))), (1, .inl (v1 ||| 0)), (2, .inl (v2 + 1))] [2, 1, 0] rfl ?_
      exact hC ((v1 ||| 0), (v2 + 1)) (Option.some.inj h).symm
    · refine pw_if_eq 27 (px_at td_Mo_good 12 rfl) (by decide) (fun hn => absurd hn hc3) (fun _ => ?_)
      refine pw_iconst (v := 1) (px_at td_Mo_good 13 rfl) (by decide) ?_
      refine pw_iload_n 2 (px_at td_Mo_good 14 rfl) rfl rfl ?_
      refine pw_ishl (px_at td_Mo_good 15 rfl) ?_
      refine pw_goto 28 (px_at td_Mo_good 16 rfl) (by decide) ?_
      refine pw_ior (px_at td_Mo_good 18 rfl) ?_
      refine pw_istore_n (L' := [(1, .inl (v1 ||| (1 <<< (v2 &&& 31)))), (0, .inr (some (0, 0, 0))), (2, .inl v2)]) (px_at td_Mo_good 19 rfl) rfl (by decide) rfl ?_
      refine pw_iinc (q := 2) (v := (v2 + 1)) (L' := [(2, .inl (v2 + 1)), (1, .inl (v1 ||| (1 <<< (v2 &&& 31)))), (0, .inr (some (0, 0, 0)))]) (px_at td_Mo_good 20 rfl) rfl rfl (by decide) rfl ?_
      refine pw_goto 4 (px_at td_Mo_good 21 rfl) (by decide) ?_
      refine pw_L [(0, .inr (some (0, 0, 0))), (1, .inl (v1 ||| (1 <<< (v2 &&& 31)))), (2, .inl (v2 + 1))] [2, 1, 0] rfl ?_
      exact hC ((v1 ||| (1 <<< (v2 &&& 31))), (v2 + 1)) (Option.some.inj h).symm
def Mo_good_L4 (σ : pxS) : (Int32 × Int32) → Option ((Int32 × Int32) ⊕ (Int32)) := fun s => Mo_good_n4 σ s.1 s.2
set_option maxRecDepth 100000 in
theorem Mo_good_L4_l {l : Launch} {ids : List pxI} {Rt : Option pxV → List pxI → pxG → pxS → Prop} {σ : pxS} {n : Nat} {s : Int32 × Int32} {e : Int32} (h : px_it (Mo_good_L4 σ) n s = some e) (hX0 : pw l (px_R 3) y_Mo_good c_Mo_good 3 (some .int) 36 [(1, .inl e)] [] ids mG σ 0 0 Rt) : pw l (px_R 3) y_Mo_good c_Mo_good 3 (some .int) 4 [(0, .inr (some (0, 0, 0))), (1, .inl s.1), (2, .inl s.2)] [] ids mG σ 0 0 Rt := by
  refine px_it_rule (f := Mo_good_L4 σ) (C := fun s => pw l (px_R 3) y_Mo_good c_Mo_good 3 (some .int) 4 [(0, .inr (some (0, 0, 0))), (1, .inl s.1), (2, .inl s.2)] [] ids mG σ 0 0 Rt) (X := fun e => (pw l (px_R 3) y_Mo_good c_Mo_good 3 (some .int) 36 [(1, .inl e)] [] ids mG σ 0 0 Rt)) ?_ ?_ n s e h hX0
  · intro s s1 hf hC
    exact Mo_good_n4_l hf (fun s2 hs => by cases hs; exact hC) (fun e he => by cases he)
  · intro s e hf hX
    exact Mo_good_n4_l hf (fun s2 hs => by cases hs) (fun e1 he => by cases he; exact hX)
def F_Mo_good (σ : pxS)  : Option (Int32) :=
  px_b1 (px_it (Mo_good_L4 σ) px_N (0, 0)) fun e5 =>
  some (e5)
set_option maxRecDepth 100000 in
theorem e_Mo_good {l : Launch} {ids : List pxI} {Rt : Option pxV → List pxI → pxG → pxS → Prop} {σ : pxS}  {res : Int32} (h : F_Mo_good σ  = some res) (hR : Rt (some (.inl res)) ids mG σ) : pw l (px_R 3) y_Mo_good c_Mo_good 3 (some .int) 0 [(0, .inr (some (0, 0, 0)))] [] ids mG σ 0 0 Rt := by
  unfold F_Mo_good at h
  refine pw_iconst (v := 0) (px_at td_Mo_good 0 rfl) (by decide) ?_
  refine pw_istore_n (L' := [(1, .inl 0), (0, .inr (some (0, 0, 0)))]) (px_at td_Mo_good 1 rfl) rfl (by decide) rfl ?_
  refine pw_iconst (v := 0) (px_at td_Mo_good 2 rfl) (by decide) ?_
  refine pw_istore_n (L' := [(2, .inl 0), (1, .inl 0), (0, .inr (some (0, 0, 0)))]) (px_at td_Mo_good 3 rfl) rfl (by decide) rfl ?_
  obtain ⟨e5, he5, h⟩ := px_b1_e h
  refine pw_L [(0, .inr (some (0, 0, 0))), (1, .inl 0), (2, .inl 0)] [2, 1, 0] rfl ?_
  refine Mo_good_L4_l he5 ?_
  refine pw_iload_n 0 (px_at td_Mo_good 22 rfl) rfl rfl ?_
  obtain rfl := Option.some.inj h
  exact pw_iret (px_at td_Mo_good 23 rfl) rfl (Nat.le_refl 0) (Nat.le_refl 0) hR
theorem k_Mo_good {l : Launch} {ids : List pxI} {σ : pxS}  {res : Int32} (h : F_Mo_good σ  = some res) : pm l y_Mo_good c_Mo_good 3 (some .int) (px_R 3) [.inr (some (0, 0, 0))] ids mG σ (px_r (some (.inl res)) ids mG σ) :=
  pm_ofF (by decide +kernel) (Nat.le_of_ble_eq_true rfl) (e_Mo_good h ⟨rfl, rfl, rfl, rfl⟩)
/-! Mo_chance -/
def Mo_chance_n45 (σ : pxS)  : Option (Int32 × pxS) :=
  some ((-1), σ)
set_option maxRecDepth 100000 in
theorem Mo_chance_n45_l {l : Launch} {ids : List pxI} {Rt : Option pxV → List pxI → pxG → pxS → Prop} {σ : pxS}  {res : Int32 × pxS} (h : Mo_chance_n45 σ  = some res) (hR : Rt (some (.inl res.1)) ids mG res.2) : pw l (px_R 9) y_Mo_chance c_Mo_chance 9 (some .int) 45 [] [] ids mG σ 0 0 Rt := by
  unfold Mo_chance_n45 at h
  refine pw_iconst (v := (-1)) (px_at td_Mo_chance 23 rfl) (by decide) ?_
  obtain rfl := Option.some.inj h
  exact pw_iret (px_at td_Mo_chance 24 rfl) rfl (Nat.le_refl 0) (Nat.le_refl 0) hR
def Mo_chance_n135 (σ : pxS) (v2 : Int32) (v3 : Int32) (v4 : Int32) (v5 : Int32) (v6 : Int32) (v7 : Int32) : Option ((Int32 × Int32 × pxS) ⊕ (Int32 × pxS)) :=
  px_b1 (F_Mo_tickGoes σ ) fun σ6 =>
  px_b1 (F_Mo_greater σ6 v6 (σ6 (1, 28, 0) 186)) fun r7 =>
  some (.inl (r7, (v7 + 1), σ6))
set_option maxRecDepth 100000 in
theorem Mo_chance_n135_l {l : Launch} {ids : List pxI} {Rt : Option pxV → List pxI → pxG → pxS → Prop} {σ : pxS} {v2 : Int32} {v3 : Int32} {v4 : Int32} {v5 : Int32} {v6 : Int32} {v7 : Int32} {o : (Int32 × Int32 × pxS) ⊕ (Int32 × pxS)} (h : Mo_chance_n135 σ v2 v3 v4 v5 v6 v7 = some o) (hC : ∀ s, o = .inl s → pw l (px_R 9) y_Mo_chance c_Mo_chance 9 (some .int) 92 [(0, .inr (some (0, 0, 0))), (2, .inl v2), (3, .inl v3), (4, .inl v4), (5, .inl v5), (6, .inl s.1), (7, .inl s.2.1)] [] ids mG s.2.2 0 0 Rt) (hX0 : ∀ e, o = .inr e → pw l (px_R 9) y_Mo_chance c_Mo_chance 9 (some .int) 160 [(0, .inr (some (0, 0, 0))), (4, .inl v4), (5, .inl v5), (6, .inl e.1)] [] ids mG e.2 0 0 Rt) : pw l (px_R 9) y_Mo_chance c_Mo_chance 9 (some .int) 135 [(0, .inr (some (0, 0, 0))), (2, .inl v2), (3, .inl v3), (4, .inl v4), (5, .inl v5), (6, .inl v6), (7, .inl v7)] [] ids mG σ 0 0 Rt := by
  unfold Mo_chance_n135 at h
  refine pw_aload_n 0 (px_at td_Mo_chance 74 rfl) rfl rfl ?_
  obtain ⟨σ6, hk6, h⟩ := px_b1_e h
  refine pw_cV0 (0, 0, 0) [] [] (px_at td_Mo_chance 75 rfl) lV_Mo_297 rfl rfl rfl (Nat.le_of_ble_eq_true rfl) (by decide) (k_Mo_tickGoes hk6) ?_
  refine pw_iload 5 (px_at td_Mo_chance 76 rfl) rfl ?_
  refine pw_aload_n 0 (px_at td_Mo_chance 77 rfl) rfl rfl ?_
  refine pw_getf (v := .inr (some (1, 28, 0))) (px_at td_Mo_chance 78 rfl) lf_Mo_63 rfl rfl rfl ?_
  refine pw_sipush (v := 186) (px_at td_Mo_chance 79 rfl) (by decide) ?_
  refine pw_ial (px_at td_Mo_chance 80 rfl) rfl (px_inL (by decide) px_z186 (by decide)) px_z186 ?_
  obtain ⟨r7, hk7, h⟩ := px_b1_e h
  refine pw_cS1 [.inl v6, .inl (σ6 (1, 28, 0) 186)] [] (px_at td_Mo_chance 81 rfl) lS_Mo_323 rfl rfl (Nat.le_of_ble_eq_true rfl) (by decide) (k_Mo_greater hk7) ?_
  refine pw_istore (L' := [(6, .inl r7), (0, .inr (some (0, 0, 0))), (2, .inl v2), (3, .inl v3), (4, .inl v4), (5, .inl v5), (7, .inl v7)]) (px_at td_Mo_chance 82 rfl) (by decide) rfl ?_
  refine pw_iinc (q := 6) (v := (v7 + 1)) (L' := [(7, .inl (v7 + 1)), (6, .inl r7), (0, .inr (some (0, 0, 0))), (2, .inl v2), (3, .inl v3), (4, .inl v4), (5, .inl v5)]) (px_at td_Mo_chance 83 rfl) rfl rfl (by decide) rfl ?_
  refine pw_goto 92 (px_at td_Mo_chance 84 rfl) (by decide) ?_
  refine pw_L [(0, .inr (some (0, 0, 0))), (2, .inl v2), (3, .inl v3), (4, .inl v4), (5, .inl v5), (6, .inl r7), (7, .inl (v7 + 1))] [2, 3, 4, 5, 6, 1, 0] rfl ?_
  exact hC (r7, (v7 + 1), σ6) (Option.some.inj h).symm
def Mo_chance_n92 (σ : pxS) (v2 : Int32) (v3 : Int32) (v4 : Int32) (v5 : Int32) (v6 : Int32) (v7 : Int32) : Option ((Int32 × Int32 × pxS) ⊕ (Int32 × pxS)) :=
  (if v2 ≤ v7 then some (.inr (v6, σ)) else px_b1 (F_Mo_rails σ ) fun r5 =>
  (if r5 ≤ 0 then Mo_chance_n135 σ v2 v3 v4 v5 v6 v7 else px_b1 (F_Mo_rails σ ) fun r8 =>
  px_b2 (F_Mo_draw σ r8) fun r9 σ9 =>
  px_b2 (F_Mo_draw σ9 (v3 + 1)) fun r10 σ10 =>
  px_gd ((13 * r9) + 6) 308 (px_l (px_up σ10 (1, 28, 0) ((13 * r9) + 6).toNatClampNeg r10) fun σ12 =>
  Mo_chance_n135 σ12 v2 v3 v4 v5 v6 v7)))
set_option maxRecDepth 100000 in
theorem Mo_chance_n92_l {l : Launch} {ids : List pxI} {Rt : Option pxV → List pxI → pxG → pxS → Prop} {σ : pxS} {v2 : Int32} {v3 : Int32} {v4 : Int32} {v5 : Int32} {v6 : Int32} {v7 : Int32} {o : (Int32 × Int32 × pxS) ⊕ (Int32 × pxS)} (h : Mo_chance_n92 σ v2 v3 v4 v5 v6 v7 = some o) (hC : ∀ s, o = .inl s → pw l (px_R 9) y_Mo_chance c_Mo_chance 9 (some .int) 92 [(0, .inr (some (0, 0, 0))), (2, .inl v2), (3, .inl v3), (4, .inl v4), (5, .inl v5), (6, .inl s.1), (7, .inl s.2.1)] [] ids mG s.2.2 0 0 Rt) (hX0 : ∀ e, o = .inr e → pw l (px_R 9) y_Mo_chance c_Mo_chance 9 (some .int) 160 [(0, .inr (some (0, 0, 0))), (4, .inl v4), (5, .inl v5), (6, .inl e.1)] [] ids mG e.2 0 0 Rt) : pw l (px_R 9) y_Mo_chance c_Mo_chance 9 (some .int) 92 [(0, .inr (some (0, 0, 0))), (2, .inl v2), (3, .inl v3), (4, .inl v4), (5, .inl v5), (6, .inl v6), (7, .inl v7)] [] ids mG σ 0 0 Rt := by
  unfold Mo_chance_n92 at h
  refine pw_iload 6 (px_at td_Mo_chance 50 rfl) rfl ?_
  refine pw_iload_n 1 (px_at td_Mo_chance 51 rfl) rfl rfl ?_
  rcases px_ite h with ⟨hc14, h⟩ | ⟨hc14, h⟩
  · refine pw_icmp_ge 160 (px_at td_Mo_chance 52 rfl) (by decide) (fun _ => ?_) (fun hn => absurd hc14 hn)
    refine pw_L [(0, .inr (some (0, 0, 0))), (4, .inl v4), (5, .inl v5), (6, .inl v6)] [0, 3, 4, 5] rfl ?_
    exact hX0 (v6, σ) (Option.some.inj h).symm
  · refine pw_icmp_ge 160 (px_at td_Mo_chance 52 rfl) (by decide) (fun hn => absurd hn hc14) (fun _ => ?_)
    refine pw_aload_n 0 (px_at td_Mo_chance 53 rfl) rfl rfl ?_
    obtain ⟨r5, hk5, h⟩ := px_b1_e h
    refine pw_cV1 (0, 0, 0) [] [] (px_at td_Mo_chance 54 rfl) lV_Mo_223 rfl rfl rfl (Nat.le_of_ble_eq_true rfl) (by decide) (k_Mo_rails hk5) ?_
    rcases px_ite h with ⟨hc13, h⟩ | ⟨hc13, h⟩
    · refine pw_if_le 135 (px_at td_Mo_chance 55 rfl) (by decide) (fun _ => ?_) (fun hn => absurd hc13 hn)
      exact Mo_chance_n135_l h hC hX0
    · refine pw_if_le 135 (px_at td_Mo_chance 55 rfl) (by decide) (fun hn => absurd hn hc13) (fun _ => ?_)
      refine pw_aload_n 0 (px_at td_Mo_chance 56 rfl) rfl rfl ?_
      refine pw_aload_n 0 (px_at td_Mo_chance 57 rfl) rfl rfl ?_
      obtain ⟨r8, hk8, h⟩ := px_b1_e h
      refine pw_cV1 (0, 0, 0) [] [.inr (some (0, 0, 0))] (px_at td_Mo_chance 58 rfl) lV_Mo_223 rfl rfl rfl (Nat.le_of_ble_eq_true rfl) (by decide) (k_Mo_rails hk8) ?_
      obtain ⟨r9, σ9, hk9, h⟩ := px_b2_e h
      refine pw_cV1 (0, 0, 0) [.inl r8] [] (px_at td_Mo_chance 59 rfl) lV_Mo_344 rfl rfl rfl (Nat.le_of_ble_eq_true rfl) (by decide) (k_Mo_draw hk9) ?_
      refine pw_istore (L' := [(8, .inl r9), (0, .inr (some (0, 0, 0))), (2, .inl v2), (3, .inl v3), (4, .inl v4), (5, .inl v5), (6, .inl v6), (7, .inl v7)]) (px_at td_Mo_chance 60 rfl) (by decide) rfl ?_
      refine pw_aload_n 1 (px_at td_Mo_chance 61 rfl) rfl rfl ?_
      refine pw_getf (v := .inr (some (1, 28, 0))) (px_at td_Mo_chance 62 rfl) lf_Mo_63 rfl rfl rfl ?_
      refine pw_bipush (v := 13) (px_at td_Mo_chance 63 rfl) (by decide) ?_
      refine pw_iload 0 (px_at td_Mo_chance 64 rfl) rfl ?_
      refine pw_imul (px_at td_Mo_chance 65 rfl) ?_
      refine pw_bipush (v := 6) (px_at td_Mo_chance 66 rfl) (by decide) ?_
      refine pw_iadd (px_at td_Mo_chance 67 rfl) ?_
      refine pw_aload_n 1 (px_at td_Mo_chance 68 rfl) rfl rfl ?_
      refine pw_iload_n 3 (px_at td_Mo_chance 69 rfl) rfl rfl ?_
      refine pw_iconst (v := 1) (px_at td_Mo_chance 70 rfl) (by decide) ?_
      refine pw_iadd (px_at td_Mo_chance 71 rfl) ?_
      obtain ⟨r10, σ10, hk10, h⟩ := px_b2_e h
      refine pw_cV1 (0, 0, 0) [.inl (v3 + 1)] [.inl ((13 * r9) + 6), .inr (some (1, 28, 0))] (px_at td_Mo_chance 72 rfl) lV_Mo_344 rfl rfl rfl (Nat.le_of_ble_eq_true rfl) (by decide) (k_Mo_draw hk10) ?_
      obtain ⟨hi11, h⟩ := px_gd_e h
      obtain ⟨σ12, hσ12, h⟩ := px_l_e h
      refine pw_ias (px_at td_Mo_chance 73 rfl) rfl hi11 rfl hσ12 ?_
      refine pw_L [(0, .inr (some (0, 0, 0))), (2, .inl v2), (3, .inl v3), (4, .inl v4), (5, .inl v5), (6, .inl v6), (7, .inl v7)] [1, 2, 3, 4, 5, 6, 7] rfl ?_
      exact Mo_chance_n135_l h hC hX0
def Mo_chance_L92 (v2 : Int32) (v3 : Int32) (v4 : Int32) (v5 : Int32) : (Int32 × Int32 × pxS) → Option ((Int32 × Int32 × pxS) ⊕ (Int32 × pxS)) := fun s => Mo_chance_n92 s.2.2 v2 v3 v4 v5 s.1 s.2.1
set_option maxRecDepth 100000 in
theorem Mo_chance_L92_l {l : Launch} {ids : List pxI} {Rt : Option pxV → List pxI → pxG → pxS → Prop} {v2 : Int32} {v3 : Int32} {v4 : Int32} {v5 : Int32} {n : Nat} {s : Int32 × Int32 × pxS} {e : Int32 × pxS} (h : px_it (Mo_chance_L92 v2 v3 v4 v5) n s = some e) (hX0 : pw l (px_R 9) y_Mo_chance c_Mo_chance 9 (some .int) 160 [(0, .inr (some (0, 0, 0))), (4, .inl v4), (5, .inl v5), (6, .inl e.1)] [] ids mG e.2 0 0 Rt) : pw l (px_R 9) y_Mo_chance c_Mo_chance 9 (some .int) 92 [(0, .inr (some (0, 0, 0))), (2, .inl v2), (3, .inl v3), (4, .inl v4), (5, .inl v5), (6, .inl s.1), (7, .inl s.2.1)] [] ids mG s.2.2 0 0 Rt := by
  refine px_it_rule (f := Mo_chance_L92 v2 v3 v4 v5) (C := fun s => pw l (px_R 9) y_Mo_chance c_Mo_chance 9 (some .int) 92 [(0, .inr (some (0, 0, 0))), (2, .inl v2), (3, .inl v3), (4, .inl v4), (5, .inl v5), (6, .inl s.1), (7, .inl s.2.1)] [] ids mG s.2.2 0 0 Rt) (X := fun e => (pw l (px_R 9) y_Mo_chance c_Mo_chance 9 (some .int) 160 [(0, .inr (some (0, 0, 0))), (4, .inl v4), (5, .inl v5), (6, .inl e.1)] [] ids mG e.2 0 0 Rt)) ?_ ?_ n s e h hX0
  · intro s s1 hf hC
    exact Mo_chance_n92_l hf (fun s2 hs => by cases hs; exact hC) (fun e he => by cases he)
  · intro s e hf hX
    exact Mo_chance_n92_l hf (fun s2 hs => by cases hs) (fun e1 he => by cases he; exact hX)
def F_Mo_chance (σ : pxS) (v1 : Int32) (v2 : Int32) (v3 : Int32) (v4 : Int32) : Option (Int32 × pxS) :=
  px_l (px_up σ (0, 0, 0) 0 0) fun σ1 =>
  (if v1 < (-1) then Mo_chance_n45 σ1  else (if v2 < 1 then Mo_chance_n45 σ1  else (if 200 < v2 then Mo_chance_n45 σ1  else (if v3 < 1 then Mo_chance_n45 σ1  else (if 9999 < v3 then Mo_chance_n45 σ1  else (if v4 < 0 then Mo_chance_n45 σ1  else (if v4 ≤ 2 then (if v1 = (-1) then px_l (px_up σ1 (0, 0, 0) 40 (σ1 (1, 3, 0) 7)) fun σ23 =>
  px_b1 (F_Mo_copies_28_29 σ23 0 0) fun σ24 =>
  px_b1 (F_Mo_tripsAll σ24 ) fun r25 =>
  px_b1 (px_it (Mo_chance_L92 v2 v3 v4 r25) px_N (0, 0, σ24)) fun e26 =>
  (if v4 = 0 then px_b1 (F_Mo_copies_29_28 e26.2 0 0) fun σ32 =>
  some (e26.1, σ32) else (if v4 = 1 then px_b1 (F_Mo_tripsAll e26.2 ) fun r29 =>
  px_b1 (F_Mo_copies_29_28 e26.2 0 0) fun σ30 =>
  some ((r29 - r25), σ30) else px_b1 (F_Mo_good e26.2 ) fun r27 =>
  px_b1 (F_Mo_copies_29_28 e26.2 0 0) fun σ28 =>
  some (r27, σ28))) else px_l (px_up σ1 (0, 0, 0) 40 v1) fun σ2 =>
  px_b1 (F_Mo_copies_28_29 σ2 0 0) fun σ3 =>
  px_b1 (F_Mo_tripsAll σ3 ) fun r4 =>
  px_b1 (px_it (Mo_chance_L92 v2 v3 v4 r4) px_N (0, 0, σ3)) fun e15 =>
  (if v4 = 0 then px_b1 (F_Mo_copies_29_28 e15.2 0 0) fun σ21 =>
  some (e15.1, σ21) else (if v4 = 1 then px_b1 (F_Mo_tripsAll e15.2 ) fun r18 =>
  px_b1 (F_Mo_copies_29_28 e15.2 0 0) fun σ19 =>
  some ((r18 - r4), σ19) else px_b1 (F_Mo_good e15.2 ) fun r16 =>
  px_b1 (F_Mo_copies_29_28 e15.2 0 0) fun σ17 =>
  some (r16, σ17)))) else Mo_chance_n45 σ1 )))))))
set_option maxRecDepth 100000 in
theorem e_Mo_chance {l : Launch} {ids : List pxI} {Rt : Option pxV → List pxI → pxG → pxS → Prop} {σ : pxS} {v1 : Int32} {v2 : Int32} {v3 : Int32} {v4 : Int32} {res : Int32 × pxS} (h : F_Mo_chance σ v1 v2 v3 v4 = some res) (hR : Rt (some (.inl res.1)) ids mG res.2) : pw l (px_R 9) y_Mo_chance c_Mo_chance 9 (some .int) 0 [(0, .inr (some (0, 0, 0))), (1, .inl v1), (2, .inl v2), (3, .inl v3), (4, .inl v4)] [] ids mG σ 0 0 Rt := by
  unfold F_Mo_chance at h
  refine pw_aload_n 0 (px_at td_Mo_chance 0 rfl) rfl rfl ?_
  refine pw_iconst (v := 0) (px_at td_Mo_chance 1 rfl) (by decide) ?_
  obtain ⟨σ1, hσ1, h⟩ := px_l_e h
  refine pw_puti (px_at td_Mo_chance 2 rfl) lw_Mo_99 rfl rfl (pw_s hσ1 ?_)
  refine pw_iload_n 1 (px_at td_Mo_chance 3 rfl) rfl rfl ?_
  refine pw_iconst (v := (-1)) (px_at td_Mo_chance 4 rfl) (by decide) ?_
  rcases px_ite h with ⟨hc41, h⟩ | ⟨hc41, h⟩
  · refine pw_icmp_lt 45 (px_at td_Mo_chance 5 rfl) (by decide) (fun _ => ?_) (fun hn => absurd hc41 hn)
    refine pw_L [] [] rfl ?_
    exact Mo_chance_n45_l h hR
  · refine pw_icmp_lt 45 (px_at td_Mo_chance 5 rfl) (by decide) (fun hn => absurd hn hc41) (fun _ => ?_)
    refine pw_iload_n 2 (px_at td_Mo_chance 6 rfl) rfl rfl ?_
    refine pw_iconst (v := 1) (px_at td_Mo_chance 7 rfl) (by decide) ?_
    rcases px_ite h with ⟨hc40, h⟩ | ⟨hc40, h⟩
    · refine pw_icmp_lt 45 (px_at td_Mo_chance 8 rfl) (by decide) (fun _ => ?_) (fun hn => absurd hc40 hn)
      refine pw_L [] [] rfl ?_
      exact Mo_chance_n45_l h hR
    · refine pw_icmp_lt 45 (px_at td_Mo_chance 8 rfl) (by decide) (fun hn => absurd hn hc40) (fun _ => ?_)
      refine pw_iload_n 2 (px_at td_Mo_chance 9 rfl) rfl rfl ?_
      refine pw_sipush (v := 200) (px_at td_Mo_chance 10 rfl) (by decide) ?_
      rcases px_ite h with ⟨hc39, h⟩ | ⟨hc39, h⟩
      · refine pw_icmp_gt 45 (px_at td_Mo_chance 11 rfl) (by decide) (fun _ => ?_) (fun hn => absurd hc39 hn)
        refine pw_L [] [] rfl ?_
        exact Mo_chance_n45_l h hR
      · refine pw_icmp_gt 45 (px_at td_Mo_chance 11 rfl) (by decide) (fun hn => absurd hn hc39) (fun _ => ?_)
        refine pw_iload_n 3 (px_at td_Mo_chance 12 rfl) rfl rfl ?_
        refine pw_iconst (v := 1) (px_at td_Mo_chance 13 rfl) (by decide) ?_
        rcases px_ite h with ⟨hc38, h⟩ | ⟨hc38, h⟩
        · refine pw_icmp_lt 45 (px_at td_Mo_chance 14 rfl) (by decide) (fun _ => ?_) (fun hn => absurd hc38 hn)
          refine pw_L [] [] rfl ?_
          exact Mo_chance_n45_l h hR
        · refine pw_icmp_lt 45 (px_at td_Mo_chance 14 rfl) (by decide) (fun hn => absurd hn hc38) (fun _ => ?_)
          refine pw_iload_n 3 (px_at td_Mo_chance 15 rfl) rfl rfl ?_
          refine pw_sipush (v := 9999) (px_at td_Mo_chance 16 rfl) (by decide) ?_
          rcases px_ite h with ⟨hc37, h⟩ | ⟨hc37, h⟩
          · refine pw_icmp_gt 45 (px_at td_Mo_chance 17 rfl) (by decide) (fun _ => ?_) (fun hn => absurd hc37 hn)
            refine pw_L [] [] rfl ?_
            exact Mo_chance_n45_l h hR
          · refine pw_icmp_gt 45 (px_at td_Mo_chance 17 rfl) (by decide) (fun hn => absurd hn hc37) (fun _ => ?_)
            refine pw_iload 4 (px_at td_Mo_chance 18 rfl) rfl ?_
            rcases px_ite h with ⟨hc36, h⟩ | ⟨hc36, h⟩
            · refine pw_if_lt 45 (px_at td_Mo_chance 19 rfl) (by decide) (fun _ => ?_) (fun hn => absurd hc36 hn)
              refine pw_L [] [] rfl ?_
              exact Mo_chance_n45_l h hR
            · refine pw_if_lt 45 (px_at td_Mo_chance 19 rfl) (by decide) (fun hn => absurd hn hc36) (fun _ => ?_)
              refine pw_iload 4 (px_at td_Mo_chance 20 rfl) rfl ?_
              refine pw_iconst (v := 2) (px_at td_Mo_chance 21 rfl) (by decide) ?_
              rcases px_ite h with ⟨hc35, h⟩ | ⟨hc35, h⟩
              · refine pw_icmp_le 47 (px_at td_Mo_chance 22 rfl) (by decide) (fun _ => ?_) (fun hn => absurd hc35 hn)
                refine pw_aload_n 0 (px_at td_Mo_chance 25 rfl) rfl rfl ?_
                refine pw_iload_n 1 (px_at td_Mo_chance 26 rfl) rfl rfl ?_
                refine pw_iconst (v := (-1)) (px_at td_Mo_chance 27 rfl) (by decide) ?_
                rcases px_ite h with ⟨hc34, h⟩ | ⟨hc34, h⟩
                · refine pw_icmp_ne 63 (px_at td_Mo_chance 28 rfl) (by decide) (fun hn => absurd hc34 hn) (fun _ => ?_)
                  refine pw_aload_n 0 (px_at td_Mo_chance 29 rfl) rfl rfl ?_
                  refine pw_getf (v := .inr (some (1, 3, 0))) (px_at td_Mo_chance 30 rfl) lf_Mo_13 rfl rfl rfl ?_
                  refine pw_bipush (v := 7) (px_at td_Mo_chance 31 rfl) (by decide) ?_
                  refine pw_ial (px_at td_Mo_chance 32 rfl) rfl (px_inL (by decide) px_z7 (by decide)) px_z7 ?_
                  refine pw_goto 64 (px_at td_Mo_chance 33 rfl) (by decide) ?_
                  obtain ⟨σ23, hσ23, h⟩ := px_l_e h
                  refine pw_puti (px_at td_Mo_chance 35 rfl) lw_Mo_336 rfl rfl (pw_s hσ23 ?_)
                  refine pw_aload_n 0 (px_at td_Mo_chance 36 rfl) rfl rfl ?_
                  refine pw_getf (v := .inr (some (1, 28, 0))) (px_at td_Mo_chance 37 rfl) lf_Mo_63 rfl rfl rfl ?_
                  refine pw_iconst (v := 0) (px_at td_Mo_chance 38 rfl) (by decide) ?_
                  refine pw_aload_n 0 (px_at td_Mo_chance 39 rfl) rfl rfl ?_
                  refine pw_getf (v := .inr (some (1, 29, 0))) (px_at td_Mo_chance 40 rfl) lf_Mo_66 rfl rfl rfl ?_
                  refine pw_iconst (v := 0) (px_at td_Mo_chance 41 rfl) (by decide) ?_
                  obtain ⟨σ24, hk24, h⟩ := px_b1_e h
                  refine pw_cS0 [.inr (some (1, 28, 0)), .inl 0, .inr (some (1, 29, 0)), .inl 0] [] (px_at td_Mo_chance 42 rfl) lS_Mo_226 rfl rfl (Nat.le_of_ble_eq_true rfl) (by decide) (k_Mo_copies_28_29 hk24) ?_
                  refine pw_aload_n 0 (px_at td_Mo_chance 43 rfl) rfl rfl ?_
                  obtain ⟨r25, hk25, h⟩ := px_b1_e h
                  refine pw_cV1 (0, 0, 0) [] [] (px_at td_Mo_chance 44 rfl) lV_Mo_341 rfl rfl rfl (Nat.le_of_ble_eq_true rfl) (by decide) (k_Mo_tripsAll hk25) ?_
                  refine pw_istore (L' := [(5, .inl r25), (0, .inr (some (0, 0, 0))), (1, .inl v1), (2, .inl v2), (3, .inl v3), (4, .inl v4)]) (px_at td_Mo_chance 45 rfl) (by decide) rfl ?_
                  refine pw_iconst (v := 0) (px_at td_Mo_chance 46 rfl) (by decide) ?_
                  refine pw_istore (L' := [(6, .inl 0), (5, .inl r25), (0, .inr (some (0, 0, 0))), (1, .inl v1), (2, .inl v2), (3, .inl v3), (4, .inl v4)]) (px_at td_Mo_chance 47 rfl) (by decide) rfl ?_
                  refine pw_iconst (v := 0) (px_at td_Mo_chance 48 rfl) (by decide) ?_
                  refine pw_istore (L' := [(7, .inl 0), (6, .inl 0), (5, .inl r25), (0, .inr (some (0, 0, 0))), (1, .inl v1), (2, .inl v2), (3, .inl v3), (4, .inl v4)]) (px_at td_Mo_chance 49 rfl) (by decide) rfl ?_
                  obtain ⟨e26, he26, h⟩ := px_b1_e h
                  refine pw_L [(0, .inr (some (0, 0, 0))), (2, .inl v2), (3, .inl v3), (4, .inl v4), (5, .inl r25), (6, .inl 0), (7, .inl 0)] [3, 5, 6, 7, 2, 1, 0] rfl ?_
                  refine Mo_chance_L92_l he26 ?_
                  refine pw_iload 1 (px_at td_Mo_chance 85 rfl) rfl ?_
                  rcases px_ite h with ⟨hc33, h⟩ | ⟨hc33, h⟩
                  · refine pw_if_ne 170 (px_at td_Mo_chance 86 rfl) (by decide) (fun hn => absurd hc33 hn) (fun _ => ?_)
                    refine pw_iload 3 (px_at td_Mo_chance 87 rfl) rfl ?_
                    refine pw_goto 190 (px_at td_Mo_chance 88 rfl) (by decide) ?_
                    refine pw_istore (L' := [(7, .inl e26.1), (0, .inr (some (0, 0, 0))), (4, .inl v4), (5, .inl r25), (6, .inl e26.1)]) (px_at td_Mo_chance 99 rfl) (by decide) rfl ?_
                    refine pw_aload_n 1 (px_at td_Mo_chance 100 rfl) rfl rfl ?_
                    refine pw_getf (v := .inr (some (1, 29, 0))) (px_at td_Mo_chance 101 rfl) lf_Mo_66 rfl rfl rfl ?_
                    refine pw_iconst (v := 0) (px_at td_Mo_chance 102 rfl) (by decide) ?_
                    refine pw_aload_n 1 (px_at td_Mo_chance 103 rfl) rfl rfl ?_
                    refine pw_getf (v := .inr (some (1, 28, 0))) (px_at td_Mo_chance 104 rfl) lf_Mo_63 rfl rfl rfl ?_
                    refine pw_iconst (v := 0) (px_at td_Mo_chance 105 rfl) (by decide) ?_
                    obtain ⟨σ32, hk32, h⟩ := px_b1_e h
                    refine pw_cS0 [.inr (some (1, 29, 0)), .inl 0, .inr (some (1, 28, 0)), .inl 0] [] (px_at td_Mo_chance 106 rfl) lS_Mo_226 rfl rfl (Nat.le_of_ble_eq_true rfl) (by decide) (k_Mo_copies_29_28 hk32) ?_
                    refine pw_iload 0 (px_at td_Mo_chance 107 rfl) rfl ?_
                    obtain rfl := Option.some.inj h
                    exact pw_iret (px_at td_Mo_chance 108 rfl) rfl (Nat.le_refl 0) (Nat.le_refl 0) hR
                  · refine pw_if_ne 170 (px_at td_Mo_chance 86 rfl) (by decide) (fun _ => ?_) (fun hn => absurd hn hc33)
                    refine pw_iload 1 (px_at td_Mo_chance 89 rfl) rfl ?_
                    refine pw_iconst (v := 1) (px_at td_Mo_chance 90 rfl) (by decide) ?_
                    rcases px_ite h with ⟨hc31, h⟩ | ⟨hc31, h⟩
                    · refine pw_icmp_ne 186 (px_at td_Mo_chance 91 rfl) (by decide) (fun hn => absurd hc31 hn) (fun _ => ?_)
                      refine pw_aload_n 0 (px_at td_Mo_chance 92 rfl) rfl rfl ?_
                      obtain ⟨r29, hk29, h⟩ := px_b1_e h
                      refine pw_cV1 (0, 0, 0) [] [] (px_at td_Mo_chance 93 rfl) lV_Mo_341 rfl rfl rfl (Nat.le_of_ble_eq_true rfl) (by decide) (k_Mo_tripsAll hk29) ?_
                      refine pw_iload 2 (px_at td_Mo_chance 94 rfl) rfl ?_
                      refine pw_isub (px_at td_Mo_chance 95 rfl) ?_
                      refine pw_goto 190 (px_at td_Mo_chance 96 rfl) (by decide) ?_
                      refine pw_istore (L' := [(7, .inl (r29 - r25)), (0, .inr (some (0, 0, 0))), (4, .inl v4), (5, .inl r25), (6, .inl e26.1)]) (px_at td_Mo_chance 99 rfl) (by decide) rfl ?_
                      refine pw_aload_n 1 (px_at td_Mo_chance 100 rfl) rfl rfl ?_
                      refine pw_getf (v := .inr (some (1, 29, 0))) (px_at td_Mo_chance 101 rfl) lf_Mo_66 rfl rfl rfl ?_
                      refine pw_iconst (v := 0) (px_at td_Mo_chance 102 rfl) (by decide) ?_
                      refine pw_aload_n 1 (px_at td_Mo_chance 103 rfl) rfl rfl ?_
                      refine pw_getf (v := .inr (some (1, 28, 0))) (px_at td_Mo_chance 104 rfl) lf_Mo_63 rfl rfl rfl ?_
                      refine pw_iconst (v := 0) (px_at td_Mo_chance 105 rfl) (by decide) ?_
                      obtain ⟨σ30, hk30, h⟩ := px_b1_e h
                      refine pw_cS0 [.inr (some (1, 29, 0)), .inl 0, .inr (some (1, 28, 0)), .inl 0] [] (px_at td_Mo_chance 106 rfl) lS_Mo_226 rfl rfl (Nat.le_of_ble_eq_true rfl) (by decide) (k_Mo_copies_29_28 hk30) ?_
                      refine pw_iload 0 (px_at td_Mo_chance 107 rfl) rfl ?_
                      obtain rfl := Option.some.inj h
                      exact pw_iret (px_at td_Mo_chance 108 rfl) rfl (Nat.le_refl 0) (Nat.le_refl 0) hR
                    · refine pw_icmp_ne 186 (px_at td_Mo_chance 91 rfl) (by decide) (fun _ => ?_) (fun hn => absurd hn hc31)
                      refine pw_aload_n 0 (px_at td_Mo_chance 97 rfl) rfl rfl ?_
                      obtain ⟨r27, hk27, h⟩ := px_b1_e h
                      refine pw_cV1 (0, 0, 0) [] [] (px_at td_Mo_chance 98 rfl) lV_Mo_347 rfl rfl rfl (Nat.le_of_ble_eq_true rfl) (by decide) (k_Mo_good hk27) ?_
                      refine pw_istore (L' := [(7, .inl r27), (0, .inr (some (0, 0, 0))), (4, .inl v4), (5, .inl r25), (6, .inl e26.1)]) (px_at td_Mo_chance 99 rfl) (by decide) rfl ?_
                      refine pw_aload_n 1 (px_at td_Mo_chance 100 rfl) rfl rfl ?_
                      refine pw_getf (v := .inr (some (1, 29, 0))) (px_at td_Mo_chance 101 rfl) lf_Mo_66 rfl rfl rfl ?_
                      refine pw_iconst (v := 0) (px_at td_Mo_chance 102 rfl) (by decide) ?_
                      refine pw_aload_n 1 (px_at td_Mo_chance 103 rfl) rfl rfl ?_
                      refine pw_getf (v := .inr (some (1, 28, 0))) (px_at td_Mo_chance 104 rfl) lf_Mo_63 rfl rfl rfl ?_
                      refine pw_iconst (v := 0) (px_at td_Mo_chance 105 rfl) (by decide) ?_
                      obtain ⟨σ28, hk28, h⟩ := px_b1_e h
                      refine pw_cS0 [.inr (some (1, 29, 0)), .inl 0, .inr (some (1, 28, 0)), .inl 0] [] (px_at td_Mo_chance 106 rfl) lS_Mo_226 rfl rfl (Nat.le_of_ble_eq_true rfl) (by decide) (k_Mo_copies_29_28 hk28) ?_
                      refine pw_iload 0 (px_at td_Mo_chance 107 rfl) rfl ?_
                      obtain rfl := Option.some.inj h
                      exact pw_iret (px_at td_Mo_chance 108 rfl) rfl (Nat.le_refl 0) (Nat.le_refl 0) hR
                · refine pw_icmp_ne 63 (px_at td_Mo_chance 28 rfl) (by decide) (fun _ => ?_) (fun hn => absurd hn hc34)
                  refine pw_iload_n 1 (px_at td_Mo_chance 34 rfl) rfl rfl ?_
                  obtain ⟨σ2, hσ2, h⟩ := px_l_e h
                  refine pw_puti (px_at td_Mo_chance 35 rfl) lw_Mo_336 rfl rfl (pw_s hσ2 ?_)
                  refine pw_aload_n 0 (px_at td_Mo_chance 36 rfl) rfl rfl ?_
                  refine pw_getf (v := .inr (some (1, 28, 0))) (px_at td_Mo_chance 37 rfl) lf_Mo_63 rfl rfl rfl ?_
                  refine pw_iconst (v := 0) (px_at td_Mo_chance 38 rfl) (by decide) ?_
                  refine pw_aload_n 0 (px_at td_Mo_chance 39 rfl) rfl rfl ?_
                  refine pw_getf (v := .inr (some (1, 29, 0))) (px_at td_Mo_chance 40 rfl) lf_Mo_66 rfl rfl rfl ?_
                  refine pw_iconst (v := 0) (px_at td_Mo_chance 41 rfl) (by decide) ?_
                  obtain ⟨σ3, hk3, h⟩ := px_b1_e h
                  refine pw_cS0 [.inr (some (1, 28, 0)), .inl 0, .inr (some (1, 29, 0)), .inl 0] [] (px_at td_Mo_chance 42 rfl) lS_Mo_226 rfl rfl (Nat.le_of_ble_eq_true rfl) (by decide) (k_Mo_copies_28_29 hk3) ?_
                  refine pw_aload_n 0 (px_at td_Mo_chance 43 rfl) rfl rfl ?_
                  obtain ⟨r4, hk4, h⟩ := px_b1_e h
                  refine pw_cV1 (0, 0, 0) [] [] (px_at td_Mo_chance 44 rfl) lV_Mo_341 rfl rfl rfl (Nat.le_of_ble_eq_true rfl) (by decide) (k_Mo_tripsAll hk4) ?_
                  refine pw_istore (L' := [(5, .inl r4), (0, .inr (some (0, 0, 0))), (1, .inl v1), (2, .inl v2), (3, .inl v3), (4, .inl v4)]) (px_at td_Mo_chance 45 rfl) (by decide) rfl ?_
                  refine pw_iconst (v := 0) (px_at td_Mo_chance 46 rfl) (by decide) ?_
                  refine pw_istore (L' := [(6, .inl 0), (5, .inl r4), (0, .inr (some (0, 0, 0))), (1, .inl v1), (2, .inl v2), (3, .inl v3), (4, .inl v4)]) (px_at td_Mo_chance 47 rfl) (by decide) rfl ?_
                  refine pw_iconst (v := 0) (px_at td_Mo_chance 48 rfl) (by decide) ?_
                  refine pw_istore (L' := [(7, .inl 0), (6, .inl 0), (5, .inl r4), (0, .inr (some (0, 0, 0))), (1, .inl v1), (2, .inl v2), (3, .inl v3), (4, .inl v4)]) (px_at td_Mo_chance 49 rfl) (by decide) rfl ?_
                  obtain ⟨e15, he15, h⟩ := px_b1_e h
                  refine pw_L [(0, .inr (some (0, 0, 0))), (2, .inl v2), (3, .inl v3), (4, .inl v4), (5, .inl r4), (6, .inl 0), (7, .inl 0)] [3, 5, 6, 7, 2, 1, 0] rfl ?_
                  refine Mo_chance_L92_l he15 ?_
                  refine pw_iload 1 (px_at td_Mo_chance 85 rfl) rfl ?_
                  rcases px_ite h with ⟨hc22, h⟩ | ⟨hc22, h⟩
                  · refine pw_if_ne 170 (px_at td_Mo_chance 86 rfl) (by decide) (fun hn => absurd hc22 hn) (fun _ => ?_)
                    refine pw_iload 3 (px_at td_Mo_chance 87 rfl) rfl ?_
                    refine pw_goto 190 (px_at td_Mo_chance 88 rfl) (by decide) ?_
                    refine pw_istore (L' := [(7, .inl e15.1), (0, .inr (some (0, 0, 0))), (4, .inl v4), (5, .inl r4), (6, .inl e15.1)]) (px_at td_Mo_chance 99 rfl) (by decide) rfl ?_
                    refine pw_aload_n 1 (px_at td_Mo_chance 100 rfl) rfl rfl ?_
                    refine pw_getf (v := .inr (some (1, 29, 0))) (px_at td_Mo_chance 101 rfl) lf_Mo_66 rfl rfl rfl ?_
                    refine pw_iconst (v := 0) (px_at td_Mo_chance 102 rfl) (by decide) ?_
                    refine pw_aload_n 1 (px_at td_Mo_chance 103 rfl) rfl rfl ?_
                    refine pw_getf (v := .inr (some (1, 28, 0))) (px_at td_Mo_chance 104 rfl) lf_Mo_63 rfl rfl rfl ?_
                    refine pw_iconst (v := 0) (px_at td_Mo_chance 105 rfl) (by decide) ?_
                    obtain ⟨σ21, hk21, h⟩ := px_b1_e h
                    refine pw_cS0 [.inr (some (1, 29, 0)), .inl 0, .inr (some (1, 28, 0)), .inl 0] [] (px_at td_Mo_chance 106 rfl) lS_Mo_226 rfl rfl (Nat.le_of_ble_eq_true rfl) (by decide) (k_Mo_copies_29_28 hk21) ?_
                    refine pw_iload 0 (px_at td_Mo_chance 107 rfl) rfl ?_
                    obtain rfl := Option.some.inj h
                    exact pw_iret (px_at td_Mo_chance 108 rfl) rfl (Nat.le_refl 0) (Nat.le_refl 0) hR
                  · refine pw_if_ne 170 (px_at td_Mo_chance 86 rfl) (by decide) (fun _ => ?_) (fun hn => absurd hn hc22)
                    refine pw_iload 1 (px_at td_Mo_chance 89 rfl) rfl ?_
                    refine pw_iconst (v := 1) (px_at td_Mo_chance 90 rfl) (by decide) ?_
                    rcases px_ite h with ⟨hc20, h⟩ | ⟨hc20, h⟩
                    · refine pw_icmp_ne 186 (px_at td_Mo_chance 91 rfl) (by decide) (fun hn => absurd hc20 hn) (fun _ => ?_)
                      refine pw_aload_n 0 (px_at td_Mo_chance 92 rfl) rfl rfl ?_
                      obtain ⟨r18, hk18, h⟩ := px_b1_e h
                      refine pw_cV1 (0, 0, 0) [] [] (px_at td_Mo_chance 93 rfl) lV_Mo_341 rfl rfl rfl (Nat.le_of_ble_eq_true rfl) (by decide) (k_Mo_tripsAll hk18) ?_
                      refine pw_iload 2 (px_at td_Mo_chance 94 rfl) rfl ?_
                      refine pw_isub (px_at td_Mo_chance 95 rfl) ?_
                      refine pw_goto 190 (px_at td_Mo_chance 96 rfl) (by decide) ?_
                      refine pw_istore (L' := [(7, .inl (r18 - r4)), (0, .inr (some (0, 0, 0))), (4, .inl v4), (5, .inl r4), (6, .inl e15.1)]) (px_at td_Mo_chance 99 rfl) (by decide) rfl ?_
                      refine pw_aload_n 1 (px_at td_Mo_chance 100 rfl) rfl rfl ?_
                      refine pw_getf (v := .inr (some (1, 29, 0))) (px_at td_Mo_chance 101 rfl) lf_Mo_66 rfl rfl rfl ?_
                      refine pw_iconst (v := 0) (px_at td_Mo_chance 102 rfl) (by decide) ?_
                      refine pw_aload_n 1 (px_at td_Mo_chance 103 rfl) rfl rfl ?_
                      refine pw_getf (v := .inr (some (1, 28, 0))) (px_at td_Mo_chance 104 rfl) lf_Mo_63 rfl rfl rfl ?_
                      refine pw_iconst (v := 0) (px_at td_Mo_chance 105 rfl) (by decide) ?_
                      obtain ⟨σ19, hk19, h⟩ := px_b1_e h
                      refine pw_cS0 [.inr (some (1, 29, 0)), .inl 0, .inr (some (1, 28, 0)), .inl 0] [] (px_at td_Mo_chance 106 rfl) lS_Mo_226 rfl rfl (Nat.le_of_ble_eq_true rfl) (by decide) (k_Mo_copies_29_28 hk19) ?_
                      refine pw_iload 0 (px_at td_Mo_chance 107 rfl) rfl ?_
                      obtain rfl := Option.some.inj h
                      exact pw_iret (px_at td_Mo_chance 108 rfl) rfl (Nat.le_refl 0) (Nat.le_refl 0) hR
                    · refine pw_icmp_ne 186 (px_at td_Mo_chance 91 rfl) (by decide) (fun _ => ?_) (fun hn => absurd hn hc20)
                      refine pw_aload_n 0 (px_at td_Mo_chance 97 rfl) rfl rfl ?_
                      obtain ⟨r16, hk16, h⟩ := px_b1_e h
                      refine pw_cV1 (0, 0, 0) [] [] (px_at td_Mo_chance 98 rfl) lV_Mo_347 rfl rfl rfl (Nat.le_of_ble_eq_true rfl) (by decide) (k_Mo_good hk16) ?_
                      refine pw_istore (L' := [(7, .inl r16), (0, .inr (some (0, 0, 0))), (4, .inl v4), (5, .inl r4), (6, .inl e15.1)]) (px_at td_Mo_chance 99 rfl) (by decide) rfl ?_
                      refine pw_aload_n 1 (px_at td_Mo_chance 100 rfl) rfl rfl ?_
                      refine pw_getf (v := .inr (some (1, 29, 0))) (px_at td_Mo_chance 101 rfl) lf_Mo_66 rfl rfl rfl ?_
                      refine pw_iconst (v := 0) (px_at td_Mo_chance 102 rfl) (by decide) ?_
                      refine pw_aload_n 1 (px_at td_Mo_chance 103 rfl) rfl rfl ?_
                      refine pw_getf (v := .inr (some (1, 28, 0))) (px_at td_Mo_chance 104 rfl) lf_Mo_63 rfl rfl rfl ?_
                      refine pw_iconst (v := 0) (px_at td_Mo_chance 105 rfl) (by decide) ?_
                      obtain ⟨σ17, hk17, h⟩ := px_b1_e h
                      refine pw_cS0 [.inr (some (1, 29, 0)), .inl 0, .inr (some (1, 28, 0)), .inl 0] [] (px_at td_Mo_chance 106 rfl) lS_Mo_226 rfl rfl (Nat.le_of_ble_eq_true rfl) (by decide) (k_Mo_copies_29_28 hk17) ?_
                      refine pw_iload 0 (px_at td_Mo_chance 107 rfl) rfl ?_
                      obtain rfl := Option.some.inj h
                      exact pw_iret (px_at td_Mo_chance 108 rfl) rfl (Nat.le_refl 0) (Nat.le_refl 0) hR
              · refine pw_icmp_le 47 (px_at td_Mo_chance 22 rfl) (by decide) (fun hn => absurd hn hc35) (fun _ => ?_)
                refine pw_L [] [] rfl ?_
                exact Mo_chance_n45_l h hR
theorem k_Mo_chance {l : Launch} {ids : List pxI} {σ : pxS} {v1 : Int32} {v2 : Int32} {v3 : Int32} {v4 : Int32} {res : Int32 × pxS} (h : F_Mo_chance σ v1 v2 v3 v4 = some res) : pm l y_Mo_chance c_Mo_chance 9 (some .int) (px_R 9) [.inr (some (0, 0, 0)), .inl v1, .inl v2, .inl v3, .inl v4] ids mG σ (px_r (some (.inl res.1)) ids mG res.2) :=
  pm_ofF (by decide +kernel) (Nat.le_of_ble_eq_true rfl) (e_Mo_chance h ⟨rfl, rfl, rfl, rfl⟩)
/-! Mo_goodMany -/
def Mo_goodMany_n7 (σ : pxS) (v1 : Int32) (v2 : Int32) : Option ((Int32 × Int32) ⊕ (Int32)) :=
  (if v2 = 0 then some (.inr v1) else some (.inl ((v1 + 1), (v2 &&& (v2 - 1)))))
set_option maxRecDepth 100000 in
theorem Mo_goodMany_n7_l {l : Launch} {ids : List pxI} {Rt : Option pxV → List pxI → pxG → pxS → Prop} {σ : pxS} {v1 : Int32} {v2 : Int32} {o : (Int32 × Int32) ⊕ (Int32)} (h : Mo_goodMany_n7 σ v1 v2 = some o) (hC : ∀ s, o = .inl s → pw l (px_R 4) y_Mo_goodMany c_Mo_goodMany 3 (some .int) 7 [(1, .inl s.1), (2, .inl s.2)] [] ids mG σ 0 0 Rt) (hX0 : ∀ e, o = .inr e → pw l (px_R 4) y_Mo_goodMany c_Mo_goodMany 3 (some .int) 23 [(1, .inl e)] [] ids mG σ 0 0 Rt) : pw l (px_R 4) y_Mo_goodMany c_Mo_goodMany 3 (some .int) 7 [(1, .inl v1), (2, .inl v2)] [] ids mG σ 0 0 Rt := by
  unfold Mo_goodMany_n7 at h
  refine pw_iload_n 1 (px_at td_Mo_goodMany 5 rfl) rfl rfl ?_
  rcases px_ite h with ⟨hc2, h⟩ | ⟨hc2, h⟩
  · refine pw_if_eq 23 (px_at td_Mo_goodMany 6 rfl) (by decide) (fun _ => ?_) (fun hn => absurd hc2 hn)
    refine pw_L [(1, .inl v1)] [0] rfl ?_
    exact hX0 v1 (Option.some.inj h).symm
  · refine pw_if_eq 23 (px_at td_Mo_goodMany 6 rfl) (by decide) (fun hn => absurd hn hc2) (fun _ => ?_)
    refine pw_iinc (q := 0) (v := (v1 + 1)) (L' := [(1, .inl (v1 + 1)), (2, .inl v2)]) (px_at td_Mo_goodMany 7 rfl) rfl rfl (by decide) rfl ?_
    refine pw_iload_n 1 (px_at td_Mo_goodMany 8 rfl) rfl rfl ?_
    refine pw_iload_n 1 (px_at td_Mo_goodMany 9 rfl) rfl rfl ?_
    refine pw_iconst (v := 1) (px_at td_Mo_goodMany 10 rfl) (by decide) ?_
    refine pw_isub (px_at td_Mo_goodMany 11 rfl) ?_
    refine pw_iand (px_at td_Mo_goodMany 12 rfl) ?_
    refine pw_istore_n (L' := [(2, .inl (v2 &&& (v2 - 1))), (1, .inl (v1 + 1))]) (px_at td_Mo_goodMany 13 rfl) rfl (by decide) rfl ?_
    refine pw_goto 7 (px_at td_Mo_goodMany 14 rfl) (by decide) ?_
    refine pw_L [(1, .inl (v1 + 1)), (2, .inl (v2 &&& (v2 - 1)))] [1, 0] rfl ?_
    exact hC ((v1 + 1), (v2 &&& (v2 - 1))) (Option.some.inj h).symm
def Mo_goodMany_L7 (σ : pxS) : (Int32 × Int32) → Option ((Int32 × Int32) ⊕ (Int32)) := fun s => Mo_goodMany_n7 σ s.1 s.2
set_option maxRecDepth 100000 in
theorem Mo_goodMany_L7_l {l : Launch} {ids : List pxI} {Rt : Option pxV → List pxI → pxG → pxS → Prop} {σ : pxS} {n : Nat} {s : Int32 × Int32} {e : Int32} (h : px_it (Mo_goodMany_L7 σ) n s = some e) (hX0 : pw l (px_R 4) y_Mo_goodMany c_Mo_goodMany 3 (some .int) 23 [(1, .inl e)] [] ids mG σ 0 0 Rt) : pw l (px_R 4) y_Mo_goodMany c_Mo_goodMany 3 (some .int) 7 [(1, .inl s.1), (2, .inl s.2)] [] ids mG σ 0 0 Rt := by
  refine px_it_rule (f := Mo_goodMany_L7 σ) (C := fun s => pw l (px_R 4) y_Mo_goodMany c_Mo_goodMany 3 (some .int) 7 [(1, .inl s.1), (2, .inl s.2)] [] ids mG σ 0 0 Rt) (X := fun e => (pw l (px_R 4) y_Mo_goodMany c_Mo_goodMany 3 (some .int) 23 [(1, .inl e)] [] ids mG σ 0 0 Rt)) ?_ ?_ n s e h hX0
  · intro s s1 hf hC
    exact Mo_goodMany_n7_l hf (fun s2 hs => by cases hs; exact hC) (fun e he => by cases he)
  · intro s e hf hX
    exact Mo_goodMany_n7_l hf (fun s2 hs => by cases hs) (fun e1 he => by cases he; exact hX)
def F_Mo_goodMany (σ : pxS)  : Option (Int32) :=
  px_b1 (F_Mo_good σ ) fun r1 =>
  px_b1 (px_it (Mo_goodMany_L7 σ) px_N (0, r1)) fun e3 =>
  some (e3)
set_option maxRecDepth 100000 in
theorem e_Mo_goodMany {l : Launch} {ids : List pxI} {Rt : Option pxV → List pxI → pxG → pxS → Prop} {σ : pxS}  {res : Int32} (h : F_Mo_goodMany σ  = some res) (hR : Rt (some (.inl res)) ids mG σ) : pw l (px_R 4) y_Mo_goodMany c_Mo_goodMany 3 (some .int) 0 [(0, .inr (some (0, 0, 0)))] [] ids mG σ 0 0 Rt := by
  unfold F_Mo_goodMany at h
  refine pw_iconst (v := 0) (px_at td_Mo_goodMany 0 rfl) (by decide) ?_
  refine pw_istore_n (L' := [(1, .inl 0), (0, .inr (some (0, 0, 0)))]) (px_at td_Mo_goodMany 1 rfl) rfl (by decide) rfl ?_
  refine pw_aload_n 1 (px_at td_Mo_goodMany 2 rfl) rfl rfl ?_
  obtain ⟨r1, hk1, h⟩ := px_b1_e h
  refine pw_cV1 (0, 0, 0) [] [] (px_at td_Mo_goodMany 3 rfl) lV_Mo_347 rfl rfl rfl (Nat.le_of_ble_eq_true rfl) (by decide) (k_Mo_good hk1) ?_
  refine pw_istore_n (L' := [(2, .inl r1), (1, .inl 0), (0, .inr (some (0, 0, 0)))]) (px_at td_Mo_goodMany 4 rfl) rfl (by decide) rfl ?_
  obtain ⟨e3, he3, h⟩ := px_b1_e h
  refine pw_L [(1, .inl 0), (2, .inl r1)] [1, 0] rfl ?_
  refine Mo_goodMany_L7_l he3 ?_
  refine pw_iload_n 0 (px_at td_Mo_goodMany 15 rfl) rfl rfl ?_
  obtain rfl := Option.some.inj h
  exact pw_iret (px_at td_Mo_goodMany 16 rfl) rfl (Nat.le_refl 0) (Nat.le_refl 0) hR
theorem k_Mo_goodMany {l : Launch} {ids : List pxI} {σ : pxS}  {res : Int32} (h : F_Mo_goodMany σ  = some res) : pm l y_Mo_goodMany c_Mo_goodMany 3 (some .int) (px_R 4) [.inr (some (0, 0, 0))] ids mG σ (px_r (some (.inl res)) ids mG σ) :=
  pm_ofF (by decide +kernel) (Nat.le_of_ble_eq_true rfl) (e_Mo_goodMany h ⟨rfl, rfl, rfl, rfl⟩)
/-! Mo_count -/
def F_Mo_count (σ : pxS) (v1 : Int32) : Option (Int32 × pxS) :=
  px_l (px_up σ (0, 0, 0) 0 0) fun σ1 =>
  (if v1 = 0 then px_b1 (F_Mo_rails σ1 ) fun r3 =>
  some (r3, σ1) else (if v1 = 1 then some ((σ1 (1, 3, 0) 1), σ1) else (if v1 = 2 then some ((σ1 (1, 3, 0) 2), σ1) else (if v1 = 3 then some ((σ1 (1, 28, 0) 182), σ1) else (if v1 = 4 then some ((σ1 (1, 28, 0) 156), σ1) else (if v1 = 5 then some ((σ1 (1, 28, 0) 169), σ1) else (if v1 = 6 then px_b1 (F_Mo_goodMany σ1 ) fun r4 =>
  some (r4, σ1) else (if v1 = 7 then px_b1 (F_Mo_tripsAll σ1 ) fun r5 =>
  some (r5, σ1) else (if v1 = 8 then some ((σ1 (1, 28, 0) 187), σ1) else (if v1 = 9 then some ((σ1 (0, 0, 0) 32), σ1) else (if v1 = 10 then some ((σ1 (0, 0, 0) 2), σ1) else some ((-1), σ1))))))))))))
set_option maxRecDepth 100000 in
theorem e_Mo_count {l : Launch} {ids : List pxI} {Rt : Option pxV → List pxI → pxG → pxS → Prop} {σ : pxS} {v1 : Int32} {res : Int32 × pxS} (h : F_Mo_count σ v1 = some res) (hR : Rt (some (.inl res.1)) ids mG res.2) : pw l (px_R 5) y_Mo_count c_Mo_count 2 (some .int) 0 [(0, .inr (some (0, 0, 0))), (1, .inl v1)] [] ids mG σ 0 0 Rt := by
  unfold F_Mo_count at h
  refine pw_aload_n 0 (px_at td_Mo_count 0 rfl) rfl rfl ?_
  refine pw_iconst (v := 0) (px_at td_Mo_count 1 rfl) (by decide) ?_
  obtain ⟨σ1, hσ1, h⟩ := px_l_e h
  refine pw_puti (px_at td_Mo_count 2 rfl) lw_Mo_99 rfl rfl (pw_s hσ1 ?_)
  refine pw_iload_n 1 (px_at td_Mo_count 3 rfl) rfl rfl ?_
  rcases px_ite h with ⟨hs2_0, h⟩ | ⟨hs2_0, h⟩
  · refine pw_tin (off := 58) 0 64 (px_at td_Mo_count 4 rfl) hs2_0 (by decide) (by decide) (by decide) (by decide) ?_
    refine pw_aload_n 0 (px_at td_Mo_count 5 rfl) rfl rfl ?_
    obtain ⟨r3, hk3, h⟩ := px_b1_e h
    refine pw_cV1 (0, 0, 0) [] [] (px_at td_Mo_count 6 rfl) lV_Mo_223 rfl rfl rfl (Nat.le_of_ble_eq_true rfl) (by decide) (k_Mo_rails hk3) ?_
    obtain rfl := Option.some.inj h
    exact pw_iret (px_at td_Mo_count 7 rfl) rfl (Nat.le_refl 0) (Nat.le_refl 0) hR
  · have hd2_0 := trivial
    rcases px_ite h with ⟨hs2_1, h⟩ | ⟨hs2_1, h⟩
    · refine pw_tin (off := 63) 1 69 (px_at td_Mo_count 4 rfl) hs2_1 (by decide) (by decide) (by decide) (by decide) ?_
      refine pw_aload_n 0 (px_at td_Mo_count 8 rfl) rfl rfl ?_
      refine pw_getf (v := .inr (some (1, 3, 0))) (px_at td_Mo_count 9 rfl) lf_Mo_13 rfl rfl rfl ?_
      refine pw_iconst (v := 1) (px_at td_Mo_count 10 rfl) (by decide) ?_
      refine pw_ial (px_at td_Mo_count 11 rfl) rfl (px_inL (by decide) px_z1 (by decide)) px_z1 ?_
      obtain rfl := Option.some.inj h
      exact pw_iret (px_at td_Mo_count 12 rfl) rfl (Nat.le_refl 0) (Nat.le_refl 0) hR
    · have hd2_1 := trivial
      rcases px_ite h with ⟨hs2_2, h⟩ | ⟨hs2_2, h⟩
      · refine pw_tin (off := 70) 2 76 (px_at td_Mo_count 4 rfl) hs2_2 (by decide) (by decide) (by decide) (by decide) ?_
        refine pw_aload_n 0 (px_at td_Mo_count 13 rfl) rfl rfl ?_
        refine pw_getf (v := .inr (some (1, 3, 0))) (px_at td_Mo_count 14 rfl) lf_Mo_13 rfl rfl rfl ?_
        refine pw_iconst (v := 2) (px_at td_Mo_count 15 rfl) (by decide) ?_
        refine pw_ial (px_at td_Mo_count 16 rfl) rfl (px_inL (by decide) px_z2 (by decide)) px_z2 ?_
        obtain rfl := Option.some.inj h
        exact pw_iret (px_at td_Mo_count 17 rfl) rfl (Nat.le_refl 0) (Nat.le_refl 0) hR
      · have hd2_2 := trivial
        rcases px_ite h with ⟨hs2_3, h⟩ | ⟨hs2_3, h⟩
        · refine pw_tin (off := 77) 3 83 (px_at td_Mo_count 4 rfl) hs2_3 (by decide) (by decide) (by decide) (by decide) ?_
          refine pw_aload_n 0 (px_at td_Mo_count 18 rfl) rfl rfl ?_
          refine pw_getf (v := .inr (some (1, 28, 0))) (px_at td_Mo_count 19 rfl) lf_Mo_63 rfl rfl rfl ?_
          refine pw_sipush (v := 182) (px_at td_Mo_count 20 rfl) (by decide) ?_
          refine pw_ial (px_at td_Mo_count 21 rfl) rfl (px_inL (by decide) px_z182 (by decide)) px_z182 ?_
          obtain rfl := Option.some.inj h
          exact pw_iret (px_at td_Mo_count 22 rfl) rfl (Nat.le_refl 0) (Nat.le_refl 0) hR
        · have hd2_3 := trivial
          rcases px_ite h with ⟨hs2_4, h⟩ | ⟨hs2_4, h⟩
          · refine pw_tin (off := 86) 4 92 (px_at td_Mo_count 4 rfl) hs2_4 (by decide) (by decide) (by decide) (by decide) ?_
            refine pw_aload_n 0 (px_at td_Mo_count 23 rfl) rfl rfl ?_
            refine pw_getf (v := .inr (some (1, 28, 0))) (px_at td_Mo_count 24 rfl) lf_Mo_63 rfl rfl rfl ?_
            refine pw_sipush (v := 156) (px_at td_Mo_count 25 rfl) (by decide) ?_
            refine pw_ial (px_at td_Mo_count 26 rfl) rfl (px_inL (by decide) px_z156 (by decide)) px_z156 ?_
            obtain rfl := Option.some.inj h
            exact pw_iret (px_at td_Mo_count 27 rfl) rfl (Nat.le_refl 0) (Nat.le_refl 0) hR
          · have hd2_4 := trivial
            rcases px_ite h with ⟨hs2_5, h⟩ | ⟨hs2_5, h⟩
            · refine pw_tin (off := 95) 5 101 (px_at td_Mo_count 4 rfl) hs2_5 (by decide) (by decide) (by decide) (by decide) ?_
              refine pw_aload_n 0 (px_at td_Mo_count 28 rfl) rfl rfl ?_
              refine pw_getf (v := .inr (some (1, 28, 0))) (px_at td_Mo_count 29 rfl) lf_Mo_63 rfl rfl rfl ?_
              refine pw_sipush (v := 169) (px_at td_Mo_count 30 rfl) (by decide) ?_
              refine pw_ial (px_at td_Mo_count 31 rfl) rfl (px_inL (by decide) px_z169 (by decide)) px_z169 ?_
              obtain rfl := Option.some.inj h
              exact pw_iret (px_at td_Mo_count 32 rfl) rfl (Nat.le_refl 0) (Nat.le_refl 0) hR
            · have hd2_5 := trivial
              rcases px_ite h with ⟨hs2_6, h⟩ | ⟨hs2_6, h⟩
              · refine pw_tin (off := 104) 6 110 (px_at td_Mo_count 4 rfl) hs2_6 (by decide) (by decide) (by decide) (by decide) ?_
                refine pw_aload_n 0 (px_at td_Mo_count 33 rfl) rfl rfl ?_
                obtain ⟨r4, hk4, h⟩ := px_b1_e h
                refine pw_cV1 (0, 0, 0) [] [] (px_at td_Mo_count 34 rfl) lV_Mo_350 rfl rfl rfl (Nat.le_of_ble_eq_true rfl) (by decide) (k_Mo_goodMany hk4) ?_
                obtain rfl := Option.some.inj h
                exact pw_iret (px_at td_Mo_count 35 rfl) rfl (Nat.le_refl 0) (Nat.le_refl 0) hR
              · have hd2_6 := trivial
                rcases px_ite h with ⟨hs2_7, h⟩ | ⟨hs2_7, h⟩
                · refine pw_tin (off := 109) 7 115 (px_at td_Mo_count 4 rfl) hs2_7 (by decide) (by decide) (by decide) (by decide) ?_
                  refine pw_aload_n 0 (px_at td_Mo_count 36 rfl) rfl rfl ?_
                  obtain ⟨r5, hk5, h⟩ := px_b1_e h
                  refine pw_cV1 (0, 0, 0) [] [] (px_at td_Mo_count 37 rfl) lV_Mo_341 rfl rfl rfl (Nat.le_of_ble_eq_true rfl) (by decide) (k_Mo_tripsAll hk5) ?_
                  obtain rfl := Option.some.inj h
                  exact pw_iret (px_at td_Mo_count 38 rfl) rfl (Nat.le_refl 0) (Nat.le_refl 0) hR
                · have hd2_7 := trivial
                  rcases px_ite h with ⟨hs2_8, h⟩ | ⟨hs2_8, h⟩
                  · refine pw_tin (off := 114) 8 120 (px_at td_Mo_count 4 rfl) hs2_8 (by decide) (by decide) (by decide) (by decide) ?_
                    refine pw_aload_n 0 (px_at td_Mo_count 39 rfl) rfl rfl ?_
                    refine pw_getf (v := .inr (some (1, 28, 0))) (px_at td_Mo_count 40 rfl) lf_Mo_63 rfl rfl rfl ?_
                    refine pw_sipush (v := 187) (px_at td_Mo_count 41 rfl) (by decide) ?_
                    refine pw_ial (px_at td_Mo_count 42 rfl) rfl (px_inL (by decide) px_z187 (by decide)) px_z187 ?_
                    obtain rfl := Option.some.inj h
                    exact pw_iret (px_at td_Mo_count 43 rfl) rfl (Nat.le_refl 0) (Nat.le_refl 0) hR
                  · have hd2_8 := trivial
                    rcases px_ite h with ⟨hs2_9, h⟩ | ⟨hs2_9, h⟩
                    · refine pw_tin (off := 123) 9 129 (px_at td_Mo_count 4 rfl) hs2_9 (by decide) (by decide) (by decide) (by decide) ?_
                      refine pw_aload_n 0 (px_at td_Mo_count 44 rfl) rfl rfl ?_
                      refine pw_getf (v := .inl (σ1 (0, 0, 0) 32)) (px_at td_Mo_count 45 rfl) lf_Mo_216 rfl rfl rfl ?_
                      obtain rfl := Option.some.inj h
                      exact pw_iret (px_at td_Mo_count 46 rfl) rfl (Nat.le_refl 0) (Nat.le_refl 0) hR
                    · have hd2_9 := trivial
                      rcases px_ite h with ⟨hs2_10, h⟩ | ⟨hs2_10, h⟩
                      · refine pw_tin (off := 128) 10 134 (px_at td_Mo_count 4 rfl) hs2_10 (by decide) (by decide) (by decide) (by decide) ?_
                        refine pw_aload_n 0 (px_at td_Mo_count 47 rfl) rfl rfl ?_
                        refine pw_getf (v := .inl (σ1 (0, 0, 0) 2)) (px_at td_Mo_count 48 rfl) lf_Mo_102 rfl rfl rfl ?_
                        obtain rfl := Option.some.inj h
                        exact pw_iret (px_at td_Mo_count 49 rfl) rfl (Nat.le_refl 0) (Nat.le_refl 0) hR
                      · have hd2_10 := trivial
                        refine pw_tout 139 (px_at td_Mo_count 4 rfl) (px_out [0, 1, 2, 3, 4, 5, 6, 7, 8, 9, 10] (by decide) (by simp only [List.forall_mem_cons]; exact ⟨hs2_0, hs2_1, hs2_2, hs2_3, hs2_4, hs2_5, hs2_6, hs2_7, hs2_8, hs2_9, hs2_10, fun _ hm => absurd hm List.not_mem_nil⟩)) (by decide) ?_
                        refine pw_iconst (v := (-1)) (px_at td_Mo_count 50 rfl) (by decide) ?_
                        obtain rfl := Option.some.inj h
                        exact pw_iret (px_at td_Mo_count 51 rfl) rfl (Nat.le_refl 0) (Nat.le_refl 0) hR
theorem k_Mo_count {l : Launch} {ids : List pxI} {σ : pxS} {v1 : Int32} {res : Int32 × pxS} (h : F_Mo_count σ v1 = some res) : pm l y_Mo_count c_Mo_count 2 (some .int) (px_R 5) [.inr (some (0, 0, 0)), .inl v1] ids mG σ (px_r (some (.inl res.1)) ids mG res.2) :=
  pm_ofF (by decide +kernel) (Nat.le_of_ble_eq_true rfl) (e_Mo_count h ⟨rfl, rfl, rfl, rfl⟩)
