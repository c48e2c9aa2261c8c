/-! Mo_readText -/
def Mo_readText_n28 (σ : pxS)  : Option ((pxS) ⊕ (pxS)) :=
  (if (σ (0, 0, 0) 22) = 0 then (if (σ (0, 0, 0) 20) = 4 then some (.inr σ) else px_b1 (F_Mo_readLine σ ) fun σ7 =>
  some (.inl σ7)) else some (.inr σ))
set_option maxRecDepth 100000 in
theorem Mo_readText_n28_l {l : Launch} {ids : List pxI} {Rt : Option pxV → List pxI → pxG → pxS → Prop} {σ : pxS}  {o : (pxS) ⊕ (pxS)} (h : Mo_readText_n28 σ  = some o) (hC : ∀ s, o = .inl s → pw l (px_R 13) y_Mo_readText c_Mo_readText 2 none 28 [(0, .inr (some (0, 0, 0)))] [] ids mG s 0 0 Rt) (hX0 : ∀ e, o = .inr e → pw l (px_R 13) y_Mo_readText c_Mo_readText 2 none 50 [] [] ids mG e 0 0 Rt) : pw l (px_R 13) y_Mo_readText c_Mo_readText 2 none 28 [(0, .inr (some (0, 0, 0)))] [] ids mG σ 0 0 Rt := by
  unfold Mo_readText_n28 at h
  refine pw_aload_n 0 (px_at td_Mo_readText 16 rfl) rfl rfl ?_
  refine pw_getf (v := .inl (σ (0, 0, 0) 22)) (px_at td_Mo_readText 17 rfl) lf_Mo_149 rfl rfl rfl ?_
  rcases px_ite h with ⟨hc9, h⟩ | ⟨hc9, h⟩
  · refine pw_if_ne 50 (px_at td_Mo_readText 18 rfl) (by decide) (fun hn => absurd hc9 hn) (fun _ => ?_)
    refine pw_aload_n 0 (px_at td_Mo_readText 19 rfl) rfl rfl ?_
    refine pw_getf (v := .inl (σ (0, 0, 0) 20)) (px_at td_Mo_readText 20 rfl) lf_Mo_118 rfl rfl rfl ?_
    refine pw_iconst (v := 4) (px_at td_Mo_readText 21 rfl) (by decide) ?_
    rcases px_ite h with ⟨hc8, h⟩ | ⟨hc8, h⟩
    · refine pw_icmp_eq 50 (px_at td_Mo_readText 22 rfl) (by decide) (fun _ => ?_) (fun hn => absurd hc8 hn)
      refine pw_L [] [] rfl ?_
      exact hX0 σ (Option.some.inj h).symm
    · refine pw_icmp_eq 50 (px_at td_Mo_readText 22 rfl) (by decide) (fun hn => absurd hn hc8) (fun _ => ?_)
      refine pw_aload_n 0 (px_at td_Mo_readText 23 rfl) rfl rfl ?_
      obtain ⟨σ7, hk7, h⟩ := px_b1_e h
      refine pw_cV0 (0, 0, 0) [] [] (px_at td_Mo_readText 24 rfl) lV_Mo_204 rfl rfl rfl (Nat.le_of_ble_eq_true rfl) (by decide) (k_Mo_readLine hk7) ?_
      refine pw_goto 28 (px_at td_Mo_readText 25 rfl) (by decide) ?_
      exact hC σ7 (Option.some.inj h).symm
  · refine pw_if_ne 50 (px_at td_Mo_readText 18 rfl) (by decide) (fun _ => ?_) (fun hn => absurd hn hc9)
    refine pw_L [] [] rfl ?_
    exact hX0 σ (Option.some.inj h).symm
def Mo_readText_L28  : (pxS) → Option ((pxS) ⊕ (pxS)) := fun s => Mo_readText_n28 s 
set_option maxRecDepth 100000 in
theorem Mo_readText_L28_l {l : Launch} {ids : List pxI} {Rt : Option pxV → List pxI → pxG → pxS → Prop}  {n : Nat} {s : pxS} {e : pxS} (h : px_it (Mo_readText_L28 ) n s = some e) (hX0 : pw l (px_R 13) y_Mo_readText c_Mo_readText 2 none 50 [] [] ids mG e 0 0 Rt) : pw l (px_R 13) y_Mo_readText c_Mo_readText 2 none 28 [(0, .inr (some (0, 0, 0)))] [] ids mG s 0 0 Rt := by
  refine px_it_rule (f := Mo_readText_L28 ) (C := fun s => pw l (px_R 13) y_Mo_readText c_Mo_readText 2 none 28 [(0, .inr (some (0, 0, 0)))] [] ids mG s 0 0 Rt) (X := fun e => (pw l (px_R 13) y_Mo_readText c_Mo_readText 2 none 50 [] [] ids mG e 0 0 Rt)) ?_ ?_ n s e h hX0
  · intro s s1 hf hC
    exact Mo_readText_n28_l hf (fun s2 hs => by cases hs; exact hC) (fun e he => by cases he)
  · intro s e hf hX
    exact Mo_readText_n28_l hf (fun s2 hs => by cases hs) (fun e1 he => by cases he; exact hX)
def F_Mo_readText (σ : pxS) (v1 : Int32) : Option (pxS) :=
  px_l (px_up σ (0, 0, 0) 17 v1) fun σ1 =>
  px_l (px_up σ1 (0, 0, 0) 18 0) fun σ2 =>
  px_l (px_up σ2 (0, 0, 0) 22 0) fun σ3 =>
  px_l (px_up σ3 (0, 0, 0) 16 0) fun σ4 =>
  px_b1 (F_Mo_freshText σ4 ) fun σ5 =>
  px_b1 (F_Mo_token σ5 ) fun σ6 =>
  px_b1 (px_it (Mo_readText_L28 ) px_N σ6) fun e10 =>
  some e10
set_option maxRecDepth 100000 in
theorem e_Mo_readText {l : Launch} {ids : List pxI} {Rt : Option pxV → List pxI → pxG → pxS → Prop} {σ : pxS} {v1 : Int32} {res : pxS} (h : F_Mo_readText σ v1 = some res) (hR : Rt none ids mG res) : pw l (px_R 13) y_Mo_readText c_Mo_readText 2 none 0 [(0, .inr (some (0, 0, 0))), (1, .inl v1)] [] ids mG σ 0 0 Rt := by
  unfold F_Mo_readText at h
  refine pw_aload_n 0 (px_at td_Mo_readText 0 rfl) rfl rfl ?_
  refine pw_iload_n 1 (px_at td_Mo_readText 1 rfl) rfl rfl ?_
  obtain ⟨σ1, hσ1, h⟩ := px_l_e h
  refine pw_puti (px_at td_Mo_readText 2 rfl) lw_Mo_108 rfl rfl (pw_s hσ1 ?_)
  refine pw_aload_n 0 (px_at td_Mo_readText 3 rfl) rfl rfl ?_
  refine pw_iconst (v := 0) (px_at td_Mo_readText 4 rfl) (by decide) ?_
  obtain ⟨σ2, hσ2, h⟩ := px_l_e h
  refine pw_puti (px_at td_Mo_readText 5 rfl) lw_Mo_105 rfl rfl (pw_s hσ2 ?_)
  refine pw_aload_n 0 (px_at td_Mo_readText 6 rfl) rfl rfl ?_
  refine pw_iconst (v := 0) (px_at td_Mo_readText 7 rfl) (by decide) ?_
  obtain ⟨σ3, hσ3, h⟩ := px_l_e h
  refine pw_puti (px_at td_Mo_readText 8 rfl) lw_Mo_149 rfl rfl (pw_s hσ3 ?_)
  refine pw_aload_n 0 (px_at td_Mo_readText 9 rfl) rfl rfl ?_
  refine pw_iconst (v := 0) (px_at td_Mo_readText 10 rfl) (by decide) ?_
  obtain ⟨σ4, hσ4, h⟩ := px_l_e h
  refine pw_puti (px_at td_Mo_readText 11 rfl) lw_Mo_201 rfl rfl (pw_s hσ4 ?_)
  refine pw_aload_n 0 (px_at td_Mo_readText 12 rfl) rfl rfl ?_
  obtain ⟨σ5, hk5, h⟩ := px_b1_e h
  refine pw_cV0 (0, 0, 0) [] [] (px_at td_Mo_readText 13 rfl) lV_Mo_90 rfl rfl rfl (Nat.le_of_ble_eq_true rfl) (by decide) (k_Mo_freshText hk5) ?_
  refine pw_aload_n 0 (px_at td_Mo_readText 14 rfl) rfl rfl ?_
  obtain ⟨σ6, hk6, h⟩ := px_b1_e h
  refine pw_cV0 (0, 0, 0) [] [] (px_at td_Mo_readText 15 rfl) lV_Mo_155 rfl rfl rfl (Nat.le_of_ble_eq_true rfl) (by decide) (k_Mo_token hk6) ?_
  obtain ⟨e10, he10, h⟩ := px_b1_e h
  refine pw_L [(0, .inr (some (0, 0, 0)))] [0] rfl ?_
  refine Mo_readText_L28_l he10 ?_
  obtain rfl := Option.some.inj h
  exact pw_vret (px_at td_Mo_readText 26 rfl) rfl (Nat.le_refl 0) (Nat.le_refl 0) hR
theorem k_Mo_readText {l : Launch} {ids : List pxI} {σ : pxS} {v1 : Int32} {res : pxS} (h : F_Mo_readText σ v1 = some res) : pm l y_Mo_readText c_Mo_readText 2 none (px_R 13) [.inr (some (0, 0, 0)), .inl v1] ids mG σ (px_r none ids mG res) :=
  pm_ofF (by decide +kernel) (Nat.le_of_ble_eq_true rfl) (e_Mo_readText h ⟨rfl, rfl, rfl, rfl⟩)
/-! Mo_rails -/
def F_Mo_rails (σ : pxS)  : Option (Int32) :=
  some ((σ (1, 3, 0) 0))
set_option maxRecDepth 100000 in
theorem e_Mo_rails {l : Launch} {ids : List pxI} {Rt : Option pxV → List pxI → pxG → pxS → Prop} {σ : pxS}  {res : Int32} (h : F_Mo_rails σ  = some res) (hR : Rt (some (.inl res)) ids mG σ) : pw l (px_R 1) y_Mo_rails c_Mo_rails 1 (some .int) 0 [(0, .inr (some (0, 0, 0)))] [] ids mG σ 0 0 Rt := by
  unfold F_Mo_rails at h
  refine pw_aload_n 0 (px_at td_Mo_rails 0 rfl) rfl rfl ?_
  refine pw_getf (v := .inr (some (1, 3, 0))) (px_at td_Mo_rails 1 rfl) lf_Mo_13 rfl rfl rfl ?_
  refine pw_iconst (v := 0) (px_at td_Mo_rails 2 rfl) (by decide) ?_
  refine pw_ial (px_at td_Mo_rails 3 rfl) rfl (px_inL (by decide) px_z0 (by decide)) px_z0 ?_
  obtain rfl := Option.some.inj h
  exact pw_iret (px_at td_Mo_rails 4 rfl) rfl (Nat.le_refl 0) (Nat.le_refl 0) hR
theorem k_Mo_rails {l : Launch} {ids : List pxI} {σ : pxS}  {res : Int32} (h : F_Mo_rails σ  = some res) : pm l y_Mo_rails c_Mo_rails 1 (some .int) (px_R 1) [.inr (some (0, 0, 0))] ids mG σ (px_r (some (.inl res)) ids mG σ) :=
  pm_ofF (by decide +kernel) (Nat.le_of_ble_eq_true rfl) (e_Mo_rails h ⟨rfl, rfl, rfl, rfl⟩)
/-! Mo_laysOn -/
def Mo_laysOn_n2 (σ : pxS) (v1 : Int32) : Option ((Int32 × pxS) ⊕ (pxS)) :=
  px_b1 (F_Mo_rails σ ) fun r1 =>
  (if r1 ≤ v1 then some (.inr σ) else px_gd v1 24 (px_gd v1 24 ((if (σ (1, 6, 0) v1.toNatClampNeg) = (-2) then px_gd v1 12 (px_l (px_up σ (1, 26, 0) v1.toNatClampNeg ((σ (1, 12, 0) v1.toNatClampNeg) ||| 0)) fun σ11 =>
  px_gd v1 12 (px_gd v1 12 (px_l (px_up σ11 (1, 27, 0) v1.toNatClampNeg (σ11 (1, 26, 0) v1.toNatClampNeg)) fun σ14 =>
  some (.inl ((v1 + 1), σ14))))) else px_gd v1 24 (px_gd v1 12 (px_l (px_up σ (1, 26, 0) v1.toNatClampNeg ((σ (1, 12, 0) v1.toNatClampNeg) ||| (1 <<< ((σ (1, 6, 0) v1.toNatClampNeg) &&& 31)))) fun σ6 =>
  px_gd v1 12 (px_gd v1 12 (px_l (px_up σ6 (1, 27, 0) v1.toNatClampNeg (σ6 (1, 26, 0) v1.toNatClampNeg)) fun σ9 =>
  some (.inl ((v1 + 1), σ9))))))))))
set_option maxRecDepth 100000 in
theorem Mo_laysOn_n2_l {l : Launch} {ids : List pxI} {Rt : Option pxV → List pxI → pxG → pxS → Prop} {σ : pxS} {v1 : Int32} {o : (Int32 × pxS) ⊕ (pxS)} (h : Mo_laysOn_n2 σ v1 = some o) (hC : ∀ s, o = .inl s → pw l (px_R 2) y_Mo_laysOn c_Mo_laysOn 4 none 2 [(0, .inr (some (0, 0, 0))), (1, .inl s.1)] [] ids mG s.2 0 0 Rt) (hX0 : ∀ e, o = .inr e → pw l (px_R 2) y_Mo_laysOn c_Mo_laysOn 4 none 64 [(0, .inr (some (0, 0, 0)))] [] ids mG e 0 0 Rt) : pw l (px_R 2) y_Mo_laysOn c_Mo_laysOn 4 none 2 [(0, .inr (some (0, 0, 0))), (1, .inl v1)] [] ids mG σ 0 0 Rt := by
  unfold Mo_laysOn_n2 at h
  refine pw_iload_n 1 (px_at td_Mo_laysOn 2 rfl) rfl rfl ?_
  refine pw_aload_n 0 (px_at td_Mo_laysOn 3 rfl) rfl rfl ?_
  obtain ⟨r1, hk1, h⟩ := px_b1_e h
  refine pw_cV1 (0, 0, 0) [] [.inl v1] (px_at td_Mo_laysOn 4 rfl) lV_Mo_223 rfl rfl rfl (Nat.le_of_ble_eq_true rfl) (by decide) (k_Mo_rails hk1) ?_
  rcases px_ite h with ⟨hc16, h⟩ | ⟨hc16, h⟩
  · refine pw_icmp_ge 64 (px_at td_Mo_laysOn 5 rfl) (by decide) (fun _ => ?_) (fun hn => absurd hc16 hn)
    refine pw_L [(0, .inr (some (0, 0, 0)))] [0] rfl ?_
    exact hX0 σ (Option.some.inj h).symm
  · refine pw_icmp_ge 64 (px_at td_Mo_laysOn 5 rfl) (by decide) (fun hn => absurd hn hc16) (fun _ => ?_)
    refine pw_aload_n 0 (px_at td_Mo_laysOn 6 rfl) rfl rfl ?_
    refine pw_getf (v := .inr (some (1, 26, 0))) (px_at td_Mo_laysOn 7 rfl) lf_Mo_57 rfl rfl rfl ?_
    refine pw_iload_n 1 (px_at td_Mo_laysOn 8 rfl) rfl rfl ?_
    refine pw_aload_n 0 (px_at td_Mo_laysOn 9 rfl) rfl rfl ?_
    refine pw_getf (v := .inr (some (1, 12, 0))) (px_at td_Mo_laysOn 10 rfl) lf_Mo_41 rfl rfl rfl ?_
    refine pw_iload_n 1 (px_at td_Mo_laysOn 11 rfl) rfl rfl ?_
    obtain ⟨hi2, h⟩ := px_gd_e h
    refine pw_ial (px_at td_Mo_laysOn 12 rfl) rfl hi2 rfl ?_
    refine pw_aload_n 0 (px_at td_Mo_laysOn 13 rfl) rfl rfl ?_
    refine pw_getf (v := .inr (some (1, 6, 0))) (px_at td_Mo_laysOn 14 rfl) lf_Mo_23 rfl rfl rfl ?_
    refine pw_iload_n 1 (px_at td_Mo_laysOn 15 rfl) rfl rfl ?_
    obtain ⟨hi3, h⟩ := px_gd_e h
    refine pw_ial (px_at td_Mo_laysOn 16 rfl) rfl hi3 rfl ?_
    refine pw_bipush (v := (-2)) (px_at td_Mo_laysOn 17 rfl) (by decide) ?_
    rcases px_ite h with ⟨hc15, h⟩ | ⟨hc15, h⟩
    · refine pw_icmp_ne 36 (px_at td_Mo_laysOn 18 rfl) (by decide) (fun hn => absurd hc15 hn) (fun _ => ?_)
      refine pw_iconst (v := 0) (px_at td_Mo_laysOn 19 rfl) (by decide) ?_
      refine pw_goto 44 (px_at td_Mo_laysOn 20 rfl) (by decide) ?_
      refine pw_ior (px_at td_Mo_laysOn 27 rfl) ?_
      obtain ⟨hi10, h⟩ := px_gd_e h
      obtain ⟨σ11, hσ11, h⟩ := px_l_e h
      refine pw_ias (px_at td_Mo_laysOn 28 rfl) rfl hi10 rfl hσ11 ?_
      refine pw_aload_n 0 (px_at td_Mo_laysOn 29 rfl) rfl rfl ?_
      refine pw_getf (v := .inr (some (1, 27, 0))) (px_at td_Mo_laysOn 30 rfl) lf_Mo_60 rfl rfl rfl ?_
      refine pw_iload_n 1 (px_at td_Mo_laysOn 31 rfl) rfl rfl ?_
      refine pw_aload_n 0 (px_at td_Mo_laysOn 32 rfl) rfl rfl ?_
      refine pw_getf (v := .inr (some (1, 26, 0))) (px_at td_Mo_laysOn 33 rfl) lf_Mo_57 rfl rfl rfl ?_
      refine pw_iload_n 1 (px_at td_Mo_laysOn 34 rfl) rfl rfl ?_
      obtain ⟨hi12, h⟩ := px_gd_e h
      refine pw_ial (px_at td_Mo_laysOn 35 rfl) rfl hi12 rfl ?_
      obtain ⟨hi13, h⟩ := px_gd_e h
      obtain ⟨σ14, hσ14, h⟩ := px_l_e h
      refine pw_ias (px_at td_Mo_laysOn 36 rfl) rfl hi13 rfl hσ14 ?_
      refine pw_iinc (q := 1) (v := (v1 + 1)) (L' := [(1, .inl (v1 + 1)), (0, .inr (some (0, 0, 0)))]) (px_at td_Mo_laysOn 37 rfl) rfl rfl (by decide) rfl ?_
      refine pw_goto 2 (px_at td_Mo_laysOn 38 rfl) (by decide) ?_
      refine pw_L [(0, .inr (some (0, 0, 0))), (1, .inl (v1 + 1))] [1, 0] rfl ?_
      exact hC ((v1 + 1), σ14) (Option.some.inj h).symm
    · refine pw_icmp_ne 36 (px_at td_Mo_laysOn 18 rfl) (by decide) (fun _ => ?_) (fun hn => absurd hn hc15)
      refine pw_iconst (v := 1) (px_at td_Mo_laysOn 21 rfl) (by decide) ?_
      refine pw_aload_n 0 (px_at td_Mo_laysOn 22 rfl) rfl rfl ?_
      refine pw_getf (v := .inr (some (1, 6, 0))) (px_at td_Mo_laysOn 23 rfl) lf_Mo_23 rfl rfl rfl ?_
      refine pw_iload_n 1 (px_at td_Mo_laysOn 24 rfl) rfl rfl ?_
      obtain ⟨hi4, h⟩ := px_gd_e h
      refine pw_ial (px_at td_Mo_laysOn 25 rfl) rfl hi4 rfl ?_
      refine pw_ishl (px_at td_Mo_laysOn 26 rfl) ?_
      refine pw_ior (px_at td_Mo_laysOn 27 rfl) ?_
      obtain ⟨hi5, h⟩ := px_gd_e h
      obtain ⟨σ6, hσ6, h⟩ := px_l_e h
      refine pw_ias (px_at td_Mo_laysOn 28 rfl) rfl hi5 rfl hσ6 ?_
      refine pw_aload_n 0 (px_at td_Mo_laysOn 29 rfl) rfl rfl ?_
      refine pw_getf (v := .inr (some (1, 27, 0))) (px_at td_Mo_laysOn 30 rfl) lf_Mo_60 rfl rfl rfl ?_
      refine pw_iload_n 1 (px_at td_Mo_laysOn 31 rfl) rfl rfl ?_
      refine pw_aload_n 0 (px_at td_Mo_laysOn 32 rfl) rfl rfl ?_
      refine pw_getf (v := .inr (some (1, 26, 0))) (px_at td_Mo_laysOn 33 rfl) lf_Mo_57 rfl rfl rfl ?_
      refine pw_iload_n 1 (px_at td_Mo_laysOn 34 rfl) rfl rfl ?_
      obtain ⟨hi7, h⟩ := px_gd_e h
      refine pw_ial (px_at td_Mo_laysOn 35 rfl) rfl hi7 rfl ?_
      obtain ⟨hi8, h⟩ := px_gd_e h
      obtain ⟨σ9, hσ9, h⟩ := px_l_e h
      refine pw_ias (px_at td_Mo_laysOn 36 rfl) rfl hi8 rfl hσ9 ?_
      refine pw_iinc (q := 1) (v := (v1 + 1)) (L' := [(1, .inl (v1 + 1)), (0, .inr (some (0, 0, 0)))]) (px_at td_Mo_laysOn 37 rfl) rfl rfl (by decide) rfl ?_
      refine pw_goto 2 (px_at td_Mo_laysOn 38 rfl) (by decide) ?_
      refine pw_L [(0, .inr (some (0, 0, 0))), (1, .inl (v1 + 1))] [1, 0] rfl ?_
      exact hC ((v1 + 1), σ9) (Option.some.inj h).symm
def Mo_laysOn_L2  : (Int32 × pxS) → Option ((Int32 × pxS) ⊕ (pxS)) := fun s => Mo_laysOn_n2 s.2 s.1
set_option maxRecDepth 100000 in
theorem Mo_laysOn_L2_l {l : Launch} {ids : List pxI} {Rt : Option pxV → List pxI → pxG → pxS → Prop}  {n : Nat} {s : Int32 × pxS} {e : pxS} (h : px_it (Mo_laysOn_L2 ) n s = some e) (hX0 : pw l (px_R 2) y_Mo_laysOn c_Mo_laysOn 4 none 64 [(0, .inr (some (0, 0, 0)))] [] ids mG e 0 0 Rt) : pw l (px_R 2) y_Mo_laysOn c_Mo_laysOn 4 none 2 [(0, .inr (some (0, 0, 0))), (1, .inl s.1)] [] ids mG s.2 0 0 Rt := by
  refine px_it_rule (f := Mo_laysOn_L2 ) (C := fun s => pw l (px_R 2) y_Mo_laysOn c_Mo_laysOn 4 none 2 [(0, .inr (some (0, 0, 0))), (1, .inl s.1)] [] ids mG s.2 0 0 Rt) (X := fun e => (pw l (px_R 2) y_Mo_laysOn c_Mo_laysOn 4 none 64 [(0, .inr (some (0, 0, 0)))] [] ids mG e 0 0 Rt)) ?_ ?_ n s e h hX0
  · intro s s1 hf hC
    exact Mo_laysOn_n2_l hf (fun s2 hs => by cases hs; exact hC) (fun e he => by cases he)
  · intro s e hf hX
    exact Mo_laysOn_n2_l hf (fun s2 hs => by cases hs) (fun e1 he => by cases he; exact hX)
def Mo_laysOn_n123 (σ : pxS) (v1 : Int32) (v2 : Int32) (v3 : Int32) : Option ((Int32 × pxS) ⊕ (pxS)) :=
  some (.inl ((v3 + 1), σ))
set_option maxRecDepth 100000 in
theorem Mo_laysOn_n123_l {l : Launch} {ids : List pxI} {Rt : Option pxV → List pxI → pxG → pxS → Prop} {σ : pxS} {v1 : Int32} {v2 : Int32} {v3 : Int32} {o : (Int32 × pxS) ⊕ (pxS)} (h : Mo_laysOn_n123 σ v1 v2 v3 = some o) (hC : ∀ s, o = .inl s → pw l (px_R 2) y_Mo_laysOn c_Mo_laysOn 4 none 86 [(0, .inr (some (0, 0, 0))), (1, .inl v1), (2, .inl v2), (3, .inl s.1)] [] ids mG s.2 0 0 Rt) (hX0 : ∀ e, o = .inr e → pw l (px_R 2) y_Mo_laysOn c_Mo_laysOn 4 none 129 [(0, .inr (some (0, 0, 0))), (1, .inl v1), (2, .inl v2)] [] ids mG e 0 0 Rt) : pw l (px_R 2) y_Mo_laysOn c_Mo_laysOn 4 none 123 [(0, .inr (some (0, 0, 0))), (1, .inl v1), (2, .inl v2), (3, .inl v3)] [] ids mG σ 0 0 Rt := by
  unfold Mo_laysOn_n123 at h
  refine pw_iinc (q := 3) (v := (v3 + 1)) (L' := [(3, .inl (v3 + 1)), (0, .inr (some (0, 0, 0))), (1, .inl v1), (2, .inl v2)]) (px_at td_Mo_laysOn 78 rfl) rfl rfl (by decide) rfl ?_
  refine pw_goto 86 (px_at td_Mo_laysOn 79 rfl) (by decide) ?_
  refine pw_L [(0, .inr (some (0, 0, 0))), (1, .inl v1), (2, .inl v2), (3, .inl (v3 + 1))] [1, 2, 3, 0] rfl ?_
  exact hC ((v3 + 1), σ) (Option.some.inj h).symm
def Mo_laysOn_n86 (σ : pxS) (v1 : Int32) (v2 : Int32) (v3 : Int32) : Option ((Int32 × pxS) ⊕ (pxS)) :=
  px_b1 (F_Mo_rails σ ) fun r20 =>
  (if r20 ≤ v3 then some (.inr σ) else px_gd v2 12 ((if (((σ (1, 27, 0) v2.toNatClampNeg) >>> (v3 &&& 31)) &&& 1) = 1 then px_gd v2 12 (px_gd v3 12 (px_gd v2 12 (px_l (px_up σ (1, 27, 0) v2.toNatClampNeg ((σ (1, 27, 0) v2.toNatClampNeg) ||| (σ (1, 27, 0) v3.toNatClampNeg))) fun σ25 =>
  Mo_laysOn_n123 σ25 v1 v2 v3))) else Mo_laysOn_n123 σ v1 v2 v3)))
set_option maxRecDepth 100000 in
theorem Mo_laysOn_n86_l {l : Launch} {ids : List pxI} {Rt : Option pxV → List pxI → pxG → pxS → Prop} {σ : pxS} {v1 : Int32} {v2 : Int32} {v3 : Int32} {o : (Int32 × pxS) ⊕ (pxS)} (h : Mo_laysOn_n86 σ v1 v2 v3 = some o) (hC : ∀ s, o = .inl s → pw l (px_R 2) y_Mo_laysOn c_Mo_laysOn 4 none 86 [(0, .inr (some (0, 0, 0))), (1, .inl v1), (2, .inl v2), (3, .inl s.1)] [] ids mG s.2 0 0 Rt) (hX0 : ∀ e, o = .inr e → pw l (px_R 2) y_Mo_laysOn c_Mo_laysOn 4 none 129 [(0, .inr (some (0, 0, 0))), (1, .inl v1), (2, .inl v2)] [] ids mG e 0 0 Rt) : pw l (px_R 2) y_Mo_laysOn c_Mo_laysOn 4 none 86 [(0, .inr (some (0, 0, 0))), (1, .inl v1), (2, .inl v2), (3, .inl v3)] [] ids mG σ 0 0 Rt := by
  unfold Mo_laysOn_n86 at h
  refine pw_iload_n 3 (px_at td_Mo_laysOn 53 rfl) rfl rfl ?_
  refine pw_aload_n 0 (px_at td_Mo_laysOn 54 rfl) rfl rfl ?_
  obtain ⟨r20, hk20, h⟩ := px_b1_e h
  refine pw_cV1 (0, 0, 0) [] [.inl v3] (px_at td_Mo_laysOn 55 rfl) lV_Mo_223 rfl rfl rfl (Nat.le_of_ble_eq_true rfl) (by decide) (k_Mo_rails hk20) ?_
  rcases px_ite h with ⟨hc27, h⟩ | ⟨hc27, h⟩
  · refine pw_icmp_ge 129 (px_at td_Mo_laysOn 56 rfl) (by decide) (fun _ => ?_) (fun hn => absurd hc27 hn)
    refine pw_L [(0, .inr (some (0, 0, 0))), (1, .inl v1), (2, .inl v2)] [0, 1, 2] rfl ?_
    exact hX0 σ (Option.some.inj h).symm
  · refine pw_icmp_ge 129 (px_at td_Mo_laysOn 56 rfl) (by decide) (fun hn => absurd hn hc27) (fun _ => ?_)
    refine pw_aload_n 0 (px_at td_Mo_laysOn 57 rfl) rfl rfl ?_
    refine pw_getf (v := .inr (some (1, 27, 0))) (px_at td_Mo_laysOn 58 rfl) lf_Mo_60 rfl rfl rfl ?_
    refine pw_iload_n 2 (px_at td_Mo_laysOn 59 rfl) rfl rfl ?_
    obtain ⟨hi21, h⟩ := px_gd_e h
    refine pw_ial (px_at td_Mo_laysOn 60 rfl) rfl hi21 rfl ?_
    refine pw_iload_n 3 (px_at td_Mo_laysOn 61 rfl) rfl rfl ?_
    refine pw_ishr (px_at td_Mo_laysOn 62 rfl) ?_
    refine pw_iconst (v := 1) (px_at td_Mo_laysOn 63 rfl) (by decide) ?_
    refine pw_iand (px_at td_Mo_laysOn 64 rfl) ?_
    refine pw_iconst (v := 1) (px_at td_Mo_laysOn 65 rfl) (by decide) ?_
    rcases px_ite h with ⟨hc26, h⟩ | ⟨hc26, h⟩
    · refine pw_icmp_ne 123 (px_at td_Mo_laysOn 66 rfl) (by decide) (fun hn => absurd hc26 hn) (fun _ => ?_)
      refine pw_aload_n 0 (px_at td_Mo_laysOn 67 rfl) rfl rfl ?_
      refine pw_getf (v := .inr (some (1, 27, 0))) (px_at td_Mo_laysOn 68 rfl) lf_Mo_60 rfl rfl rfl ?_
      refine pw_iload_n 2 (px_at td_Mo_laysOn 69 rfl) rfl rfl ?_
      refine pw_dup2 (px_at td_Mo_laysOn 70 rfl) ?_
      obtain ⟨hi22, h⟩ := px_gd_e h
      refine pw_ial (px_at td_Mo_laysOn 71 rfl) rfl hi22 rfl ?_
      refine pw_aload_n 0 (px_at td_Mo_laysOn 72 rfl) rfl rfl ?_
      refine pw_getf (v := .inr (some (1, 27, 0))) (px_at td_Mo_laysOn 73 rfl) lf_Mo_60 rfl rfl rfl ?_
      refine pw_iload_n 3 (px_at td_Mo_laysOn 74 rfl) rfl rfl ?_
      obtain ⟨hi23, h⟩ := px_gd_e h
      refine pw_ial (px_at td_Mo_laysOn 75 rfl) rfl hi23 rfl ?_
      refine pw_ior (px_at td_Mo_laysOn 76 rfl) ?_
      obtain ⟨hi24, h⟩ := px_gd_e h
      obtain ⟨σ25, hσ25, h⟩ := px_l_e h
      refine pw_ias (px_at td_Mo_laysOn 77 rfl) rfl hi24 rfl hσ25 ?_
      exact Mo_laysOn_n123_l h hC hX0
    · refine pw_icmp_ne 123 (px_at td_Mo_laysOn 66 rfl) (by decide) (fun _ => ?_) (fun hn => absurd hn hc26)
      exact Mo_laysOn_n123_l h hC hX0
def Mo_laysOn_L86 (v1 : Int32) (v2 : Int32) : (Int32 × pxS) → Option ((Int32 × pxS) ⊕ (pxS)) := fun s => Mo_laysOn_n86 s.2 v1 v2 s.1
set_option maxRecDepth 100000 in
theorem Mo_laysOn_L86_l {l : Launch} {ids : List pxI} {Rt : Option pxV → List pxI → pxG → pxS → Prop} {v1 : Int32} {v2 : Int32} {n : Nat} {s : Int32 × pxS} {e : pxS} (h : px_it (Mo_laysOn_L86 v1 v2) n s = some e) (hX0 : pw l (px_R 2) y_Mo_laysOn c_Mo_laysOn 4 none 129 [(0, .inr (some (0, 0, 0))), (1, .inl v1), (2, .inl v2)] [] ids mG e 0 0 Rt) : pw l (px_R 2) y_Mo_laysOn c_Mo_laysOn 4 none 86 [(0, .inr (some (0, 0, 0))), (1, .inl v1), (2, .inl v2), (3, .inl s.1)] [] ids mG s.2 0 0 Rt := by
  refine px_it_rule (f := Mo_laysOn_L86 v1 v2) (C := fun s => pw l (px_R 2) y_Mo_laysOn c_Mo_laysOn 4 none 86 [(0, .inr (some (0, 0, 0))), (1, .inl v1), (2, .inl v2), (3, .inl s.1)] [] ids mG s.2 0 0 Rt) (X := fun e => (pw l (px_R 2) y_Mo_laysOn c_Mo_laysOn 4 none 129 [(0, .inr (some (0, 0, 0))), (1, .inl v1), (2, .inl v2)] [] ids mG e 0 0 Rt)) ?_ ?_ n s e h hX0
  · intro s s1 hf hC
    exact Mo_laysOn_n86_l hf (fun s2 hs => by cases hs; exact hC) (fun e he => by cases he)
  · intro s e hf hX
    exact Mo_laysOn_n86_l hf (fun s2 hs => by cases hs) (fun e1 he => by cases he; exact hX)
def Mo_laysOn_n76 (σ : pxS) (v1 : Int32) (v2 : Int32) : Option ((Int32 × pxS) ⊕ (pxS)) :=
  px_b1 (F_Mo_rails σ ) fun r19 =>
  (if r19 ≤ v2 then some (.inr σ) else px_b1 (px_it (Mo_laysOn_L86 v1 v2) px_N (0, σ)) fun e28 =>
  some (.inl ((v2 + 1), e28)))
set_option maxRecDepth 100000 in
theorem Mo_laysOn_n76_l {l : Launch} {ids : List pxI} {Rt : Option pxV → List pxI → pxG → pxS → Prop} {σ : pxS} {v1 : Int32} {v2 : Int32} {o : (Int32 × pxS) ⊕ (pxS)} (h : Mo_laysOn_n76 σ v1 v2 = some o) (hC : ∀ s, o = .inl s → pw l (px_R 2) y_Mo_laysOn c_Mo_laysOn 4 none 76 [(0, .inr (some (0, 0, 0))), (1, .inl v1), (2, .inl s.1)] [] ids mG s.2 0 0 Rt) (hX0 : ∀ e, o = .inr e → pw l (px_R 2) y_Mo_laysOn c_Mo_laysOn 4 none 135 [(0, .inr (some (0, 0, 0))), (1, .inl v1)] [] ids mG e 0 0 Rt) : pw l (px_R 2) y_Mo_laysOn c_Mo_laysOn 4 none 76 [(0, .inr (some (0, 0, 0))), (1, .inl v1), (2, .inl v2)] [] ids mG σ 0 0 Rt := by
  unfold Mo_laysOn_n76 at h
  refine pw_iload_n 2 (px_at td_Mo_laysOn 47 rfl) rfl rfl ?_
  refine pw_aload_n 0 (px_at td_Mo_laysOn 48 rfl) rfl rfl ?_
  obtain ⟨r19, hk19, h⟩ := px_b1_e h
  refine pw_cV1 (0, 0, 0) [] [.inl v2] (px_at td_Mo_laysOn 49 rfl) lV_Mo_223 rfl rfl rfl (Nat.le_of_ble_eq_true rfl) (by decide) (k_Mo_rails hk19) ?_
  rcases px_ite h with ⟨hc29, h⟩ | ⟨hc29, h⟩
  · refine pw_icmp_ge 135 (px_at td_Mo_laysOn 50 rfl) (by decide) (fun _ => ?_) (fun hn => absurd hc29 hn)
    refine pw_L [(0, .inr (some (0, 0, 0))), (1, .inl v1)] [0, 1] rfl ?_
    exact hX0 σ (Option.some.inj h).symm
  · refine pw_icmp_ge 135 (px_at td_Mo_laysOn 50 rfl) (by decide) (fun hn => absurd hn hc29) (fun _ => ?_)
    refine pw_iconst (v := 0) (px_at td_Mo_laysOn 51 rfl) (by decide) ?_
    refine pw_istore_n (L' := [(3, .inl 0), (0, .inr (some (0, 0, 0))), (1, .inl v1), (2, .inl v2)]) (px_at td_Mo_laysOn 52 rfl) rfl (by decide) rfl ?_
    obtain ⟨e28, he28, h⟩ := px_b1_e h
    refine pw_L [(0, .inr (some (0, 0, 0))), (1, .inl v1), (2, .inl v2), (3, .inl 0)] [1, 2, 3, 0] rfl ?_
    refine Mo_laysOn_L86_l he28 ?_
    refine pw_iinc (q := 2) (v := (v2 + 1)) (L' := [(2, .inl (v2 + 1)), (0, .inr (some (0, 0, 0))), (1, .inl v1)]) (px_at td_Mo_laysOn 80 rfl) rfl rfl (by decide) rfl ?_
    refine pw_goto 76 (px_at td_Mo_laysOn 81 rfl) (by decide) ?_
    refine pw_L [(0, .inr (some (0, 0, 0))), (1, .inl v1), (2, .inl (v2 + 1))] [1, 2, 0] rfl ?_
    exact hC ((v2 + 1), e28) (Option.some.inj h).symm
def Mo_laysOn_L76 (v1 : Int32) : (Int32 × pxS) → Option ((Int32 × pxS) ⊕ (pxS)) := fun s => Mo_laysOn_n76 s.2 v1 s.1
set_option maxRecDepth 100000 in
theorem Mo_laysOn_L76_l {l : Launch} {ids : List pxI} {Rt : Option pxV → List pxI → pxG → pxS → Prop} {v1 : Int32} {n : Nat} {s : Int32 × pxS} {e : pxS} (h : px_it (Mo_laysOn_L76 v1) n s = some e) (hX0 : pw l (px_R 2) y_Mo_laysOn c_Mo_laysOn 4 none 135 [(0, .inr (some (0, 0, 0))), (1, .inl v1)] [] ids mG e 0 0 Rt) : pw l (px_R 2) y_Mo_laysOn c_Mo_laysOn 4 none 76 [(0, .inr (some (0, 0, 0))), (1, .inl v1), (2, .inl s.1)] [] ids mG s.2 0 0 Rt := by
  refine px_it_rule (f := Mo_laysOn_L76 v1) (C := fun s => pw l (px_R 2) y_Mo_laysOn c_Mo_laysOn 4 none 76 [(0, .inr (some (0, 0, 0))), (1, .inl v1), (2, .inl s.1)] [] ids mG s.2 0 0 Rt) (X := fun e => (pw l (px_R 2) y_Mo_laysOn c_Mo_laysOn 4 none 135 [(0, .inr (some (0, 0, 0))), (1, .inl v1)] [] ids mG e 0 0 Rt)) ?_ ?_ n s e h hX0
  · intro s s1 hf hC
    exact Mo_laysOn_n76_l hf (fun s2 hs => by cases hs; exact hC) (fun e he => by cases he)
  · intro s e hf hX
    exact Mo_laysOn_n76_l hf (fun s2 hs => by cases hs) (fun e1 he => by cases he; exact hX)
def Mo_laysOn_n66 (σ : pxS) (v1 : Int32) : Option ((Int32 × pxS) ⊕ (pxS)) :=
  px_b1 (F_Mo_rails σ ) fun r18 =>
  (if r18 ≤ v1 then some (.inr σ) else px_b1 (px_it (Mo_laysOn_L76 v1) px_N (0, σ)) fun e30 =>
  some (.inl ((v1 + 1), e30)))
set_option maxRecDepth 100000 in
theorem Mo_laysOn_n66_l {l : Launch} {ids : List pxI} {Rt : Option pxV → List pxI → pxG → pxS → Prop} {σ : pxS} {v1 : Int32} {o : (Int32 × pxS) ⊕ (pxS)} (h : Mo_laysOn_n66 σ v1 = some o) (hC : ∀ s, o = .inl s → pw l (px_R 2) y_Mo_laysOn c_Mo_laysOn 4 none 66 [(0, .inr (some (0, 0, 0))), (1, .inl s.1)] [] ids mG s.2 0 0 Rt) (hX0 : ∀ e, o = .inr e → pw l (px_R 2) y_Mo_laysOn c_Mo_laysOn 4 none 141 [] [] ids mG e 0 0 Rt) : pw l (px_R 2) y_Mo_laysOn c_Mo_laysOn 4 none 66 [(0, .inr (some (0, 0, 0))), (1, .inl v1)] [] ids mG σ 0 0 Rt := by
  unfold Mo_laysOn_n66 at h
  refine pw_iload_n 1 (px_at td_Mo_laysOn 41 rfl) rfl rfl ?_
  refine pw_aload_n 0 (px_at td_Mo_laysOn 42 rfl) rfl rfl ?_
  obtain ⟨r18, hk18, h⟩ := px_b1_e h
  refine pw_cV1 (0, 0, 0) [] [.inl v1] (px_at td_Mo_laysOn 43 rfl) lV_Mo_223 rfl rfl rfl (Nat.le_of_ble_eq_true rfl) (by decide) (k_Mo_rails hk18) ?_
  rcases px_ite h with ⟨hc31, h⟩ | ⟨hc31, h⟩
  · refine pw_icmp_ge 141 (px_at td_Mo_laysOn 44 rfl) (by decide) (fun _ => ?_) (fun hn => absurd hc31 hn)
    refine pw_L [] [] rfl ?_
    exact hX0 σ (Option.some.inj h).symm
  · refine pw_icmp_ge 141 (px_at td_Mo_laysOn 44 rfl) (by decide) (fun hn => absurd hn hc31) (fun _ => ?_)
    refine pw_iconst (v := 0) (px_at td_Mo_laysOn 45 rfl) (by decide) ?_
    refine pw_istore_n (L' := [(2, .inl 0), (0, .inr (some (0, 0, 0))), (1, .inl v1)]) (px_at td_Mo_laysOn 46 rfl) rfl (by decide) rfl ?_
    obtain ⟨e30, he30, h⟩ := px_b1_e h
    refine pw_L [(0, .inr (some (0, 0, 0))), (1, .inl v1), (2, .inl 0)] [1, 2, 0] rfl ?_
    refine Mo_laysOn_L76_l he30 ?_
    refine pw_iinc (q := 1) (v := (v1 + 1)) (L' := [(1, .inl (v1 + 1)), (0, .inr (some (0, 0, 0)))]) (px_at td_Mo_laysOn 82 rfl) rfl rfl (by decide) rfl ?_
    refine pw_goto 66 (px_at td_Mo_laysOn 83 rfl) (by decide) ?_
    refine pw_L [(0, .inr (some (0, 0, 0))), (1, .inl (v1 + 1))] [1, 0] rfl ?_
    exact hC ((v1 + 1), e30) (Option.some.inj h).symm
def Mo_laysOn_L66  : (Int32 × pxS) → Option ((Int32 × pxS) ⊕ (pxS)) := fun s => Mo_laysOn_n66 s.2 s.1
set_option maxRecDepth 100000 in
theorem Mo_laysOn_L66_l {l : Launch} {ids : List pxI} {Rt : Option pxV → List pxI → pxG → pxS → Prop}  {n : Nat} {s : Int32 × pxS} {e : pxS} (h : px_it (Mo_laysOn_L66 ) n s = some e) (hX0 : pw l (px_R 2) y_Mo_laysOn c_Mo_laysOn 4 none 141 [] [] ids mG e 0 0 Rt) : pw l (px_R 2) y_Mo_laysOn c_Mo_laysOn 4 none 66 [(0, .inr (some (0, 0, 0))), (1, .inl s.1)] [] ids mG s.2 0 0 Rt := by
  refine px_it_rule (f := Mo_laysOn_L66 ) (C := fun s => pw l (px_R 2) y_Mo_laysOn c_Mo_laysOn 4 none 66 [(0, .inr (some (0, 0, 0))), (1, .inl s.1)] [] ids mG s.2 0 0 Rt) (X := fun e => (pw l (px_R 2) y_Mo_laysOn c_Mo_laysOn 4 none 141 [] [] ids mG e 0 0 Rt)) ?_ ?_ n s e h hX0
  · intro s s1 hf hC
    exact Mo_laysOn_n66_l hf (fun s2 hs => by cases hs; exact hC) (fun e he => by cases he)
  · intro s e hf hX
    exact Mo_laysOn_n66_l hf (fun s2 hs => by cases hs) (fun e1 he => by cases he; exact hX)
def F_Mo_laysOn (σ : pxS)  : Option (pxS) :=
  px_b1 (px_it (Mo_laysOn_L2 ) px_N (0, σ)) fun e17 =>
  px_b1 (px_it (Mo_laysOn_L66 ) px_N (0, e17)) fun e32 =>
  some e32
set_option maxRecDepth 100000 in
theorem e_Mo_laysOn {l : Launch} {ids : List pxI} {Rt : Option pxV → List pxI → pxG → pxS → Prop} {σ : pxS}  {res : pxS} (h : F_Mo_laysOn σ  = some res) (hR : Rt none ids mG res) : pw l (px_R 2) y_Mo_laysOn c_Mo_laysOn 4 none 0 [(0, .inr (some (0, 0, 0)))] [] ids mG σ 0 0 Rt := by
  unfold F_Mo_laysOn at h
  refine pw_iconst (v := 0) (px_at td_Mo_laysOn 0 rfl) (by decide) ?_
  refine pw_istore_n (L' := [(1, .inl 0), (0, .inr (some (0, 0, 0)))]) (px_at td_Mo_laysOn 1 rfl) rfl (by decide) rfl ?_
  obtain ⟨e17, he17, h⟩ := px_b1_e h
  refine pw_L [(0, .inr (some (0, 0, 0))), (1, .inl 0)] [1, 0] rfl ?_
  refine Mo_laysOn_L2_l he17 ?_
  refine pw_iconst (v := 0) (px_at td_Mo_laysOn 39 rfl) (by decide) ?_
  refine pw_istore_n (L' := [(1, .inl 0), (0, .inr (some (0, 0, 0)))]) (px_at td_Mo_laysOn 40 rfl) rfl (by decide) rfl ?_
  obtain ⟨e32, he32, h⟩ := px_b1_e h
  refine pw_L [(0, .inr (some (0, 0, 0))), (1, .inl 0)] [1, 0] rfl ?_
  refine Mo_laysOn_L66_l he32 ?_
  obtain rfl := Option.some.inj h
  exact pw_vret (px_at td_Mo_laysOn 84 rfl) rfl (Nat.le_refl 0) (Nat.le_refl 0) hR
theorem k_Mo_laysOn {l : Launch} {ids : List pxI} {σ : pxS}  {res : pxS} (h : F_Mo_laysOn σ  = some res) : pm l y_Mo_laysOn c_Mo_laysOn 4 none (px_R 2) [.inr (some (0, 0, 0))] ids mG σ (px_r none ids mG res) :=
  pm_ofF (by decide +kernel) (Nat.le_of_ble_eq_true rfl) (e_Mo_laysOn h ⟨rfl, rfl, rfl, rfl⟩)
/-! Mo_takeText -/
def Mo_takeText_n2 (σ : pxS) (v1 : Int32) : Option ((Int32 × pxS) ⊕ (pxS)) :=
  (if 11 ≤ v1 then some (.inr σ) else px_b1 (F_Mo_reading σ v1) fun r1 =>
  px_gd v1 22 (px_l (px_up σ (1, 3, 0) v1.toNatClampNeg r1) fun σ3 =>
  some (.inl ((v1 + 1), σ3))))
set_option maxRecDepth 100000 in
theorem Mo_takeText_n2_l {l : Launch} {ids : List pxI} {Rt : Option pxV → List pxI → pxG → pxS → Prop} {σ : pxS} {v1 : Int32} {o : (Int32 × pxS) ⊕ (pxS)} (h : Mo_takeText_n2 σ v1 = some o) (hC : ∀ s, o = .inl s → pw l (px_R 3) y_Mo_takeText c_Mo_takeText 2 none 2 [(0, .inr (some (0, 0, 0))), (1, .inl s.1)] [] ids mG s.2 0 0 Rt) (hX0 : ∀ e, o = .inr e → pw l (px_R 3) y_Mo_takeText c_Mo_takeText 2 none 25 [(0, .inr (some (0, 0, 0)))] [] ids mG e 0 0 Rt) : pw l (px_R 3) y_Mo_takeText c_Mo_takeText 2 none 2 [(0, .inr (some (0, 0, 0))), (1, .inl v1)] [] ids mG σ 0 0 Rt := by
  unfold Mo_takeText_n2 at h
  refine pw_iload_n 1 (px_at td_Mo_takeText 2 rfl) rfl rfl ?_
  refine pw_bipush (v := 11) (px_at td_Mo_takeText 3 rfl) (by decide) ?_
  rcases px_ite h with ⟨hc4, h⟩ | ⟨hc4, h⟩
  · refine pw_icmp_ge 25 (px_at td_Mo_takeText 4 rfl) (by decide) (fun _ => ?_) (fun hn => absurd hc4 hn)
    refine pw_L [(0, .inr (some (0, 0, 0)))] [0] rfl ?_
    exact hX0 σ (Option.some.inj h).symm
  · refine pw_icmp_ge 25 (px_at td_Mo_takeText 4 rfl) (by decide) (fun hn => absurd hn hc4) (fun _ => ?_)
    refine pw_aload_n 0 (px_at td_Mo_takeText 5 rfl) rfl rfl ?_
    refine pw_getf (v := .inr (some (1, 3, 0))) (px_at td_Mo_takeText 6 rfl) lf_Mo_13 rfl rfl rfl ?_
    refine pw_iload_n 1 (px_at td_Mo_takeText 7 rfl) rfl rfl ?_
    refine pw_aload_n 0 (px_at td_Mo_takeText 8 rfl) rfl rfl ?_
    refine pw_iload_n 1 (px_at td_Mo_takeText 9 rfl) rfl rfl ?_
    obtain ⟨r1, hk1, h⟩ := px_b1_e h
    refine pw_cV1 (0, 0, 0) [.inl v1] [.inl v1, .inr (some (1, 3, 0))] (px_at td_Mo_takeText 10 rfl) lV_Mo_173 rfl rfl rfl (Nat.le_of_ble_eq_true rfl) (by decide) (k_Mo_reading hk1) ?_
    obtain ⟨hi2, h⟩ := px_gd_e h
    obtain ⟨σ3, hσ3, h⟩ := px_l_e h
    refine pw_ias (px_at td_Mo_takeText 11 rfl) rfl hi2 rfl hσ3 ?_
    refine pw_iinc (q := 1) (v := (v1 + 1)) (L' := [(1, .inl (v1 + 1)), (0, .inr (some (0, 0, 0)))]) (px_at td_Mo_takeText 12 rfl) rfl rfl (by decide) rfl ?_
    refine pw_goto 2 (px_at td_Mo_takeText 13 rfl) (by decide) ?_
    refine pw_L [(0, .inr (some (0, 0, 0))), (1, .inl (v1 + 1))] [1, 0] rfl ?_
    exact hC ((v1 + 1), σ3) (Option.some.inj h).symm
def Mo_takeText_L2  : (Int32 × pxS) → Option ((Int32 × pxS) ⊕ (pxS)) := fun s => Mo_takeText_n2 s.2 s.1
set_option maxRecDepth 100000 in
theorem Mo_takeText_L2_l {l : Launch} {ids : List pxI} {Rt : Option pxV → List pxI → pxG → pxS → Prop}  {n : Nat} {s : Int32 × pxS} {e : pxS} (h : px_it (Mo_takeText_L2 ) n s = some e) (hX0 : pw l (px_R 3) y_Mo_takeText c_Mo_takeText 2 none 25 [(0, .inr (some (0, 0, 0)))] [] ids mG e 0 0 Rt) : pw l (px_R 3) y_Mo_takeText c_Mo_takeText 2 none 2 [(0, .inr (some (0, 0, 0))), (1, .inl s.1)] [] ids mG s.2 0 0 Rt := by
  refine px_it_rule (f := Mo_takeText_L2 ) (C := fun s => pw l (px_R 3) y_Mo_takeText c_Mo_takeText 2 none 2 [(0, .inr (some (0, 0, 0))), (1, .inl s.1)] [] ids mG s.2 0 0 Rt) (X := fun e => (pw l (px_R 3) y_Mo_takeText c_Mo_takeText 2 none 25 [(0, .inr (some (0, 0, 0)))] [] ids mG e 0 0 Rt)) ?_ ?_ n s e h hX0
  · intro s s1 hf hC
    exact Mo_takeText_n2_l hf (fun s2 hs => by cases hs; exact hC) (fun e he => by cases he)
  · intro s e hf hX
    exact Mo_takeText_n2_l hf (fun s2 hs => by cases hs) (fun e1 he => by cases he; exact hX)
def Mo_takeText_n27 (σ : pxS) (v1 : Int32) : Option ((Int32 × pxS) ⊕ (pxS)) :=
  (if 12 ≤ v1 then some (.inr σ) else px_gd (12 + v1) 24 (px_gd v1 24 (px_l (px_up σ (1, 5, 0) v1.toNatClampNeg (σ (1, 5, 0) (12 + v1).toNatClampNeg)) fun σ8 =>
  px_gd (12 + v1) 24 (px_gd v1 24 (px_l (px_up σ8 (1, 6, 0) v1.toNatClampNeg (σ8 (1, 6, 0) (12 + v1).toNatClampNeg)) fun σ11 =>
  px_gd (12 + v1) 24 (px_gd v1 24 (px_l (px_up σ11 (1, 7, 0) v1.toNatClampNeg (σ11 (1, 7, 0) (12 + v1).toNatClampNeg)) fun σ14 =>
  px_gd (12 + v1) 24 (px_gd v1 24 (px_l (px_up σ14 (1, 8, 0) v1.toNatClampNeg (σ14 (1, 8, 0) (12 + v1).toNatClampNeg)) fun σ17 =>
  px_gd (12 + v1) 24 (px_gd v1 24 (px_l (px_up σ17 (1, 9, 0) v1.toNatClampNeg (σ17 (1, 9, 0) (12 + v1).toNatClampNeg)) fun σ20 =>
  px_gd (12 + v1) 24 (px_gd v1 24 (px_l (px_up σ20 (1, 10, 0) v1.toNatClampNeg (σ20 (1, 10, 0) (12 + v1).toNatClampNeg)) fun σ23 =>
  px_gd (12 + v1) 24 (px_gd v1 24 (px_l (px_up σ23 (1, 11, 0) v1.toNatClampNeg (σ23 (1, 11, 0) (12 + v1).toNatClampNeg)) fun σ26 =>
  px_gd (12 + v1) 24 (px_gd v1 24 (px_l (px_up σ26 (1, 12, 0) v1.toNatClampNeg (σ26 (1, 12, 0) (12 + v1).toNatClampNeg)) fun σ29 =>
  some (.inl ((v1 + 1), σ29)))))))))))))))))))
set_option maxRecDepth 100000 in
theorem Mo_takeText_n27_l {l : Launch} {ids : List pxI} {Rt : Option pxV → List pxI → pxG → pxS → Prop} {σ : pxS} {v1 : Int32} {o : (Int32 × pxS) ⊕ (pxS)} (h : Mo_takeText_n27 σ v1 = some o) (hC : ∀ s, o = .inl s → pw l (px_R 3) y_Mo_takeText c_Mo_takeText 2 none 27 [(0, .inr (some (0, 0, 0))), (1, .inl s.1)] [] ids mG s.2 0 0 Rt) (hX0 : ∀ e, o = .inr e → pw l (px_R 3) y_Mo_takeText c_Mo_takeText 2 none 159 [(0, .inr (some (0, 0, 0)))] [] ids mG e 0 0 Rt) : pw l (px_R 3) y_Mo_takeText c_Mo_takeText 2 none 27 [(0, .inr (some (0, 0, 0))), (1, .inl v1)] [] ids mG σ 0 0 Rt := by
  unfold Mo_takeText_n27 at h
  refine pw_iload_n 1 (px_at td_Mo_takeText 16 rfl) rfl rfl ?_
  refine pw_bipush (v := 12) (px_at td_Mo_takeText 17 rfl) (by decide) ?_
  rcases px_ite h with ⟨hc30, h⟩ | ⟨hc30, h⟩
  · refine pw_icmp_ge 159 (px_at td_Mo_takeText 18 rfl) (by decide) (fun _ => ?_) (fun hn => absurd hc30 hn)
    refine pw_L [(0, .inr (some (0, 0, 0)))] [0] rfl ?_
    exact hX0 σ (Option.some.inj h).symm
  · refine pw_icmp_ge 159 (px_at td_Mo_takeText 18 rfl) (by decide) (fun hn => absurd hn hc30) (fun _ => ?_)
    refine pw_aload_n 0 (px_at td_Mo_takeText 19 rfl) rfl rfl ?_
    refine pw_getf (v := .inr (some (1, 5, 0))) (px_at td_Mo_takeText 20 rfl) lf_Mo_20 rfl rfl rfl ?_
    refine pw_iload_n 1 (px_at td_Mo_takeText 21 rfl) rfl rfl ?_
    refine pw_aload_n 0 (px_at td_Mo_takeText 22 rfl) rfl rfl ?_
    refine pw_getf (v := .inr (some (1, 5, 0))) (px_at td_Mo_takeText 23 rfl) lf_Mo_20 rfl rfl rfl ?_
    refine pw_bipush (v := 12) (px_at td_Mo_takeText 24 rfl) (by decide) ?_
    refine pw_iload_n 1 (px_at td_Mo_takeText 25 rfl) rfl rfl ?_
    refine pw_iadd (px_at td_Mo_takeText 26 rfl) ?_
    obtain ⟨hi6, h⟩ := px_gd_e h
    refine pw_ial (px_at td_Mo_takeText 27 rfl) rfl hi6 rfl ?_
    obtain ⟨hi7, h⟩ := px_gd_e h
    obtain ⟨σ8, hσ8, h⟩ := px_l_e h
    refine pw_ias (px_at td_Mo_takeText 28 rfl) rfl hi7 rfl hσ8 ?_
    refine pw_aload_n 0 (px_at td_Mo_takeText 29 rfl) rfl rfl ?_
    refine pw_getf (v := .inr (some (1, 6, 0))) (px_at td_Mo_takeText 30 rfl) lf_Mo_23 rfl rfl rfl ?_
    refine pw_iload_n 1 (px_at td_Mo_takeText 31 rfl) rfl rfl ?_
    refine pw_aload_n 0 (px_at td_Mo_takeText 32 rfl) rfl rfl ?_
    refine pw_getf (v := .inr (some (1, 6, 0))) (px_at td_Mo_takeText 33 rfl) lf_Mo_23 rfl rfl rfl ?_
    refine pw_bipush (v := 12) (px_at td_Mo_takeText 34 rfl) (by decide) ?_
    refine pw_iload_n 1 (px_at td_Mo_takeText 35 rfl) rfl rfl ?_
    refine pw_iadd (px_at td_Mo_takeText 36 rfl) ?_
    obtain ⟨hi9, h⟩ := px_gd_e h
    refine pw_ial (px_at td_Mo_takeText 37 rfl) rfl hi9 rfl ?_
    obtain ⟨hi10, h⟩ := px_gd_e h
    obtain ⟨σ11, hσ11, h⟩ := px_l_e h
    refine pw_ias (px_at td_Mo_takeText 38 rfl) rfl hi10 rfl hσ11 ?_
    refine pw_aload_n 0 (px_at td_Mo_takeText 39 rfl) rfl rfl ?_
    refine pw_getf (v := .inr (some (1, 7, 0))) (px_at td_Mo_takeText 40 rfl) lf_Mo_26 rfl rfl rfl ?_
    refine pw_iload_n 1 (px_at td_Mo_takeText 41 rfl) rfl rfl ?_
    refine pw_aload_n 0 (px_at td_Mo_takeText 42 rfl) rfl rfl ?_
    refine pw_getf (v := .inr (some (1, 7, 0))) (px_at td_Mo_takeText 43 rfl) lf_Mo_26 rfl rfl rfl ?_
    refine pw_bipush (v := 12) (px_at td_Mo_takeText 44 rfl) (by decide) ?_
    refine pw_iload_n 1 (px_at td_Mo_takeText 45 rfl) rfl rfl ?_
    refine pw_iadd (px_at td_Mo_takeText 46 rfl) ?_
    obtain ⟨hi12, h⟩ := px_gd_e h
    refine pw_ial (px_at td_Mo_takeText 47 rfl) rfl hi12 rfl ?_
    obtain ⟨hi13, h⟩ := px_gd_e h
    obtain ⟨σ14, hσ14, h⟩ := px_l_e h
    refine pw_ias (px_at td_Mo_takeText 48 rfl) rfl hi13 rfl hσ14 ?_
    refine pw_aload_n 0 (px_at td_Mo_takeText 49 rfl) rfl rfl ?_
    refine pw_getf (v := .inr (some (1, 8, 0))) (px_at td_Mo_takeText 50 rfl) lf_Mo_29 rfl rfl rfl ?_
    refine pw_iload_n 1 (px_at td_Mo_takeText 51 rfl) rfl rfl ?_
    refine pw_aload_n 0 (px_at td_Mo_takeText 52 rfl) rfl rfl ?_
    refine pw_getf (v := .inr (some (1, 8, 0))) (px_at td_Mo_takeText 53 rfl) lf_Mo_29 rfl rfl rfl ?_
    refine pw_bipush (v := 12) (px_at td_Mo_takeText 54 rfl) (by decide) ?_
    refine pw_iload_n 1 (px_at td_Mo_takeText 55 rfl) rfl rfl ?_
    refine pw_iadd (px_at td_Mo_takeText 56 rfl) ?_
    obtain ⟨hi15, h⟩ := px_gd_e h
    refine pw_ial (px_at td_Mo_takeText 57 rfl) rfl hi15 rfl ?_
    obtain ⟨hi16, h⟩ := px_gd_e h
    obtain ⟨σ17, hσ17, h⟩ := px_l_e h
    refine pw_ias (px_at td_Mo_takeText 58 rfl) rfl hi16 rfl hσ17 ?_
    refine pw_aload_n 0 (px_at td_Mo_takeText 59 rfl) rfl rfl ?_
    refine pw_getf (v := .inr (some (1, 9, 0))) (px_at td_Mo_takeText 60 rfl) lf_Mo_32 rfl rfl rfl ?_
    refine pw_iload_n 1 (px_at td_Mo_takeText 61 rfl) rfl rfl ?_
    refine pw_aload_n 0 (px_at td_Mo_takeText 62 rfl) rfl rfl ?_
    refine pw_getf (v := .inr (some (1, 9, 0))) (px_at td_Mo_takeText 63 rfl) lf_Mo_32 rfl rfl rfl ?_
    refine pw_bipush (v := 12) (px_at td_Mo_takeText 64 rfl) (by decide) ?_
    refine pw_iload_n 1 (px_at td_Mo_takeText 65 rfl) rfl rfl ?_
    refine pw_iadd (px_at td_Mo_takeText 66 rfl) ?_
    obtain ⟨hi18, h⟩ := px_gd_e h
    refine pw_ial (px_at td_Mo_takeText 67 rfl) rfl hi18 rfl ?_
    obtain ⟨hi19, h⟩ := px_gd_e h
    obtain ⟨σ20, hσ20, h⟩ := px_l_e h
    refine pw_ias (px_at td_Mo_takeText 68 rfl) rfl hi19 rfl hσ20 ?_
    refine pw_aload_n 0 (px_at td_Mo_takeText 69 rfl) rfl rfl ?_
    refine pw_getf (v := .inr (some (1, 10, 0))) (px_at td_Mo_takeText 70 rfl) lf_Mo_35 rfl rfl rfl ?_
    refine pw_iload_n 1 (px_at td_Mo_takeText 71 rfl) rfl rfl ?_
    refine pw_aload_n 0 (px_at td_Mo_takeText 72 rfl) rfl rfl ?_
    refine pw_getf (v := .inr (some (1, 10, 0))) (px_at td_Mo_takeText 73 rfl) lf_Mo_35 rfl rfl rfl ?_
    refine pw_bipush (v := 12) (px_at td_Mo_takeText 74 rfl) (by decide) ?_
    refine pw_iload_n 1 (px_at td_Mo_takeText 75 rfl) rfl rfl ?_
    refine pw_iadd (px_at td_Mo_takeText 76 rfl) ?_
    obtain ⟨hi21, h⟩ := px_gd_e h
    refine pw_ial (px_at td_Mo_takeText 77 rfl) rfl hi21 rfl ?_
    obtain ⟨hi22, h⟩ := px_gd_e h
    obtain ⟨σ23, hσ23, h⟩ := px_l_e h
    refine pw_ias (px_at td_Mo_takeText 78 rfl) rfl hi22 rfl hσ23 ?_
    refine pw_aload_n 0 (px_at td_Mo_takeText 79 rfl) rfl rfl ?_
    refine pw_getf (v := .inr (some (1, 11, 0))) (px_at td_Mo_takeText 80 rfl) lf_Mo_38 rfl rfl rfl ?_
    refine pw_iload_n 1 (px_at td_Mo_takeText 81 rfl) rfl rfl ?_
    refine pw_aload_n 0 (px_at td_Mo_takeText 82 rfl) rfl rfl ?_
    refine pw_getf (v := .inr (some (1, 11, 0))) (px_at td_Mo_takeText 83 rfl) lf_Mo_38 rfl rfl rfl ?_
    refine pw_bipush (v := 12) (px_at td_Mo_takeText 84 rfl) (by decide) ?_
    refine pw_iload_n 1 (px_at td_Mo_takeText 85 rfl) rfl rfl ?_
    refine pw_iadd (px_at td_Mo_takeText 86 rfl) ?_
    obtain ⟨hi24, h⟩ := px_gd_e h
    refine pw_ial (px_at td_Mo_takeText 87 rfl) rfl hi24 rfl ?_
    obtain ⟨hi25, h⟩ := px_gd_e h
    obtain ⟨σ26, hσ26, h⟩ := px_l_e h
    refine pw_ias (px_at td_Mo_takeText 88 rfl) rfl hi25 rfl hσ26 ?_
    refine pw_aload_n 0 (px_at td_Mo_takeText 89 rfl) rfl rfl ?_
    refine pw_getf (v := .inr (some (1, 12, 0))) (px_at td_Mo_takeText 90 rfl) lf_Mo_41 rfl rfl rfl ?_
    refine pw_iload_n 1 (px_at td_Mo_takeText 91 rfl) rfl rfl ?_
    refine pw_aload_n 0 (px_at td_Mo_takeText 92 rfl) rfl rfl ?_
    refine pw_getf (v := .inr (some (1, 12, 0))) (px_at td_Mo_takeText 93 rfl) lf_Mo_41 rfl rfl rfl ?_
    refine pw_bipush (v := 12) (px_at td_Mo_takeText 94 rfl) (by decide) ?_
    refine pw_iload_n 1 (px_at td_Mo_takeText 95 rfl) rfl rfl ?_
    refine pw_iadd (px_at td_Mo_takeText 96 rfl) ?_
    obtain ⟨hi27, h⟩ := px_gd_e h
    refine pw_ial (px_at td_Mo_takeText 97 rfl) rfl hi27 rfl ?_
    obtain ⟨hi28, h⟩ := px_gd_e h
    obtain ⟨σ29, hσ29, h⟩ := px_l_e h
    refine pw_ias (px_at td_Mo_takeText 98 rfl) rfl hi28 rfl hσ29 ?_
    refine pw_iinc (q := 1) (v := (v1 + 1)) (L' := [(1, .inl (v1 + 1)), (0, .inr (some (0, 0, 0)))]) (px_at td_Mo_takeText 99 rfl) rfl rfl (by decide) rfl ?_
    refine pw_goto 27 (px_at td_Mo_takeText 100 rfl) (by decide) ?_
    refine pw_L [(0, .inr (some (0, 0, 0))), (1, .inl (v1 + 1))] [1, 0] rfl ?_
    exact hC ((v1 + 1), σ29) (Option.some.inj h).symm
def Mo_takeText_L27  : (Int32 × pxS) → Option ((Int32 × pxS) ⊕ (pxS)) := fun s => Mo_takeText_n27 s.2 s.1
set_option maxRecDepth 100000 in
theorem Mo_takeText_L27_l {l : Launch} {ids : List pxI} {Rt : Option pxV → List pxI → pxG → pxS → Prop}  {n : Nat} {s : Int32 × pxS} {e : pxS} (h : px_it (Mo_takeText_L27 ) n s = some e) (hX0 : pw l (px_R 3) y_Mo_takeText c_Mo_takeText 2 none 159 [(0, .inr (some (0, 0, 0)))] [] ids mG e 0 0 Rt) : pw l (px_R 3) y_Mo_takeText c_Mo_takeText 2 none 27 [(0, .inr (some (0, 0, 0))), (1, .inl s.1)] [] ids mG s.2 0 0 Rt := by
  refine px_it_rule (f := Mo_takeText_L27 ) (C := fun s => pw l (px_R 3) y_Mo_takeText c_Mo_takeText 2 none 27 [(0, .inr (some (0, 0, 0))), (1, .inl s.1)] [] ids mG s.2 0 0 Rt) (X := fun e => (pw l (px_R 3) y_Mo_takeText c_Mo_takeText 2 none 159 [(0, .inr (some (0, 0, 0)))] [] ids mG e 0 0 Rt)) ?_ ?_ n s e h hX0
  · intro s s1 hf hC
    exact Mo_takeText_n27_l hf (fun s2 hs => by cases hs; exact hC) (fun e he => by cases he)
  · intro s e hf hX
    exact Mo_takeText_n27_l hf (fun s2 hs => by cases hs) (fun e1 he => by cases he; exact hX)
def Mo_takeText_n161 (σ : pxS) (v1 : Int32) : Option ((Int32 × pxS) ⊕ (pxS)) :=
  (if 24 ≤ v1 then some (.inr σ) else px_gd (24 + v1) 48 (px_gd v1 48 (px_l (px_up σ (1, 13, 0) v1.toNatClampNeg (σ (1, 13, 0) (24 + v1).toNatClampNeg)) fun σ34 =>
  px_gd (24 + v1) 48 (px_gd v1 48 (px_l (px_up σ34 (1, 14, 0) v1.toNatClampNeg (σ34 (1, 14, 0) (24 + v1).toNatClampNeg)) fun σ37 =>
  px_gd (24 + v1) 48 (px_gd v1 48 (px_l (px_up σ37 (1, 15, 0) v1.toNatClampNeg (σ37 (1, 15, 0) (24 + v1).toNatClampNeg)) fun σ40 =>
  some (.inl ((v1 + 1), σ40)))))))))
set_option maxRecDepth 100000 in
theorem Mo_takeText_n161_l {l : Launch} {ids : List pxI} {Rt : Option pxV → List pxI → pxG → pxS → Prop} {σ : pxS} {v1 : Int32} {o : (Int32 × pxS) ⊕ (pxS)} (h : Mo_takeText_n161 σ v1 = some o) (hC : ∀ s, o = .inl s → pw l (px_R 3) y_Mo_takeText c_Mo_takeText 2 none 161 [(0, .inr (some (0, 0, 0))), (1, .inl s.1)] [] ids mG s.2 0 0 Rt) (hX0 : ∀ e, o = .inr e → pw l (px_R 3) y_Mo_takeText c_Mo_takeText 2 none 218 [(0, .inr (some (0, 0, 0)))] [] ids mG e 0 0 Rt) : pw l (px_R 3) y_Mo_takeText c_Mo_takeText 2 none 161 [(0, .inr (some (0, 0, 0))), (1, .inl v1)] [] ids mG σ 0 0 Rt := by
  unfold Mo_takeText_n161 at h
  refine pw_iload_n 1 (px_at td_Mo_takeText 103 rfl) rfl rfl ?_
  refine pw_bipush (v := 24) (px_at td_Mo_takeText 104 rfl) (by decide) ?_
  rcases px_ite h with ⟨hc41, h⟩ | ⟨hc41, h⟩
  · refine pw_icmp_ge 218 (px_at td_Mo_takeText 105 rfl) (by decide) (fun _ => ?_) (fun hn => absurd hc41 hn)
    refine pw_L [(0, .inr (some (0, 0, 0)))] [0] rfl ?_
    exact hX0 σ (Option.some.inj h).symm
  · refine pw_icmp_ge 218 (px_at td_Mo_takeText 105 rfl) (by decide) (fun hn => absurd hn hc41) (fun _ => ?_)
    refine pw_aload_n 0 (px_at td_Mo_takeText 106 rfl) rfl rfl ?_
    refine pw_getf (v := .inr (some (1, 13, 0))) (px_at td_Mo_takeText 107 rfl) lf_Mo_44 rfl rfl rfl ?_
    refine pw_iload_n 1 (px_at td_Mo_takeText 108 rfl) rfl rfl ?_
    refine pw_aload_n 0 (px_at td_Mo_takeText 109 rfl) rfl rfl ?_
    refine pw_getf (v := .inr (some (1, 13, 0))) (px_at td_Mo_takeText 110 rfl) lf_Mo_44 rfl rfl rfl ?_
    refine pw_bipush (v := 24) (px_at td_Mo_takeText 111 rfl) (by decide) ?_
    refine pw_iload_n 1 (px_at td_Mo_takeText 112 rfl) rfl rfl ?_
    refine pw_iadd (px_at td_Mo_takeText 113 rfl) ?_
    obtain ⟨hi32, h⟩ := px_gd_e h
    refine pw_ial (px_at td_Mo_takeText 114 rfl) rfl hi32 rfl ?_
    obtain ⟨hi33, h⟩ := px_gd_e h
    obtain ⟨σ34, hσ34, h⟩ := px_l_e h
    refine pw_ias (px_at td_Mo_takeText 115 rfl) rfl hi33 rfl hσ34 ?_
    refine pw_aload_n 0 (px_at td_Mo_takeText 116 rfl) rfl rfl ?_
    refine pw_getf (v := .inr (some (1, 14, 0))) (px_at td_Mo_takeText 117 rfl) lf_Mo_47 rfl rfl rfl ?_
    refine pw_iload_n 1 (px_at td_Mo_takeText 118 rfl) rfl rfl ?_
    refine pw_aload_n 0 (px_at td_Mo_takeText 119 rfl) rfl rfl ?_
    refine pw_getf (v := .inr (some (1, 14, 0))) (px_at td_Mo_takeText 120 rfl) lf_Mo_47 rfl rfl rfl ?_
    refine pw_bipush (v := 24) (px_at td_Mo_takeText 121 rfl) (by decide) ?_
    refine pw_iload_n 1 (px_at td_Mo_takeText 122 rfl) rfl rfl ?_
    refine pw_iadd (px_at td_Mo_takeText 123 rfl) ?_
    obtain ⟨hi35, h⟩ := px_gd_e h
    refine pw_ial (px_at td_Mo_takeText 124 rfl) rfl hi35 rfl ?_
    obtain ⟨hi36, h⟩ := px_gd_e h
    obtain ⟨σ37, hσ37, h⟩ := px_l_e h
    refine pw_ias (px_at td_Mo_takeText 125 rfl) rfl hi36 rfl hσ37 ?_
    refine pw_aload_n 0 (px_at td_Mo_takeText 126 rfl) rfl rfl ?_
    refine pw_getf (v := .inr (some (1, 15, 0))) (px_at td_Mo_takeText 127 rfl) lf_Mo_50 rfl rfl rfl ?_
    refine pw_iload_n 1 (px_at td_Mo_takeText 128 rfl) rfl rfl ?_
    refine pw_aload_n 0 (px_at td_Mo_takeText 129 rfl) rfl rfl ?_
    refine pw_getf (v := .inr (some (1, 15, 0))) (px_at td_Mo_takeText 130 rfl) lf_Mo_50 rfl rfl rfl ?_
    refine pw_bipush (v := 24) (px_at td_Mo_takeText 131 rfl) (by decide) ?_
    refine pw_iload_n 1 (px_at td_Mo_takeText 132 rfl) rfl rfl ?_
    refine pw_iadd (px_at td_Mo_takeText 133 rfl) ?_
    obtain ⟨hi38, h⟩ := px_gd_e h
    refine pw_ial (px_at td_Mo_takeText 134 rfl) rfl hi38 rfl ?_
    obtain ⟨hi39, h⟩ := px_gd_e h
    obtain ⟨σ40, hσ40, h⟩ := px_l_e h
    refine pw_ias (px_at td_Mo_takeText 135 rfl) rfl hi39 rfl hσ40 ?_
    refine pw_iinc (q := 1) (v := (v1 + 1)) (L' := [(1, .inl (v1 + 1)), (0, .inr (some (0, 0, 0)))]) (px_at td_Mo_takeText 136 rfl) rfl rfl (by decide) rfl ?_
    refine pw_goto 161 (px_at td_Mo_takeText 137 rfl) (by decide) ?_
    refine pw_L [(0, .inr (some (0, 0, 0))), (1, .inl (v1 + 1))] [1, 0] rfl ?_
    exact hC ((v1 + 1), σ40) (Option.some.inj h).symm
def Mo_takeText_L161  : (Int32 × pxS) → Option ((Int32 × pxS) ⊕ (pxS)) := fun s => Mo_takeText_n161 s.2 s.1
set_option maxRecDepth 100000 in
theorem Mo_takeText_L161_l {l : Launch} {ids : List pxI} {Rt : Option pxV → List pxI → pxG → pxS → Prop}  {n : Nat} {s : Int32 × pxS} {e : pxS} (h : px_it (Mo_takeText_L161 ) n s = some e) (hX0 : pw l (px_R 3) y_Mo_takeText c_Mo_takeText 2 none 218 [(0, .inr (some (0, 0, 0)))] [] ids mG e 0 0 Rt) : pw l (px_R 3) y_Mo_takeText c_Mo_takeText 2 none 161 [(0, .inr (some (0, 0, 0))), (1, .inl s.1)] [] ids mG s.2 0 0 Rt := by
  refine px_it_rule (f := Mo_takeText_L161 ) (C := fun s => pw l (px_R 3) y_Mo_takeText c_Mo_takeText 2 none 161 [(0, .inr (some (0, 0, 0))), (1, .inl s.1)] [] ids mG s.2 0 0 Rt) (X := fun e => (pw l (px_R 3) y_Mo_takeText c_Mo_takeText 2 none 218 [(0, .inr (some (0, 0, 0)))] [] ids mG e 0 0 Rt)) ?_ ?_ n s e h hX0
  · intro s s1 hf hC
    exact Mo_takeText_n161_l hf (fun s2 hs => by cases hs; exact hC) (fun e he => by cases he)
  · intro s e hf hX
    exact Mo_takeText_n161_l hf (fun s2 hs => by cases hs) (fun e1 he => by cases he; exact hX)
def F_Mo_takeText (σ : pxS)  : Option (pxS) :=
  px_b1 (px_it (Mo_takeText_L2 ) px_N (0, σ)) fun e5 =>
  px_b1 (px_it (Mo_takeText_L27 ) px_N (0, e5)) fun e31 =>
  px_b1 (px_it (Mo_takeText_L161 ) px_N (0, e31)) fun e42 =>
  px_b1 (F_Mo_laysOn e42 ) fun σ43 =>
  some σ43
set_option maxRecDepth 100000 in
theorem e_Mo_takeText {l : Launch} {ids : List pxI} {Rt : Option pxV → List pxI → pxG → pxS → Prop} {σ : pxS}  {res : pxS} (h : F_Mo_takeText σ  = some res) (hR : Rt none ids mG res) : pw l (px_R 3) y_Mo_takeText c_Mo_takeText 2 none 0 [(0, .inr (some (0, 0, 0)))] [] ids mG σ 0 0 Rt := by
  unfold F_Mo_takeText at h
  refine pw_iconst (v := 0) (px_at td_Mo_takeText 0 rfl) (by decide) ?_
  refine pw_istore_n (L' := [(1, .inl 0), (0, .inr (some (0, 0, 0)))]) (px_at td_Mo_takeText 1 rfl) rfl (by decide) rfl ?_
  obtain ⟨e5, he5, h⟩ := px_b1_e h
  refine pw_L [(0, .inr (some (0, 0, 0))), (1, .inl 0)] [1, 0] rfl ?_
  refine Mo_takeText_L2_l he5 ?_
  refine pw_iconst (v := 0) (px_at td_Mo_takeText 14 rfl) (by decide) ?_
  refine pw_istore_n (L' := [(1, .inl 0), (0, .inr (some (0, 0, 0)))]) (px_at td_Mo_takeText 15 rfl) rfl (by decide) rfl ?_
  obtain ⟨e31, he31, h⟩ := px_b1_e h
  refine pw_L [(0, .inr (some (0, 0, 0))), (1, .inl 0)] [1, 0] rfl ?_
  refine Mo_takeText_L27_l he31 ?_
  refine pw_iconst (v := 0) (px_at td_Mo_takeText 101 rfl) (by decide) ?_
  refine pw_istore_n (L' := [(1, .inl 0), (0, .inr (some (0, 0, 0)))]) (px_at td_Mo_takeText 102 rfl) rfl (by decide) rfl ?_
  obtain ⟨e42, he42, h⟩ := px_b1_e h
  refine pw_L [(0, .inr (some (0, 0, 0))), (1, .inl 0)] [1, 0] rfl ?_
  refine Mo_takeText_L161_l he42 ?_
  refine pw_aload_n 0 (px_at td_Mo_takeText 138 rfl) rfl rfl ?_
  obtain ⟨σ43, hk43, h⟩ := px_b1_e h
  refine pw_cV0 (0, 0, 0) [] [] (px_at td_Mo_takeText 139 rfl) lV_Mo_207 rfl rfl rfl (Nat.le_of_ble_eq_true rfl) (by decide) (k_Mo_laysOn hk43) ?_
  obtain rfl := Option.some.inj h
  exact pw_vret (px_at td_Mo_takeText 140 rfl) rfl (Nat.le_refl 0) (Nat.le_refl 0) hR
theorem k_Mo_takeText {l : Launch} {ids : List pxI} {σ : pxS}  {res : pxS} (h : F_Mo_takeText σ  = some res) : pm l y_Mo_takeText c_Mo_takeText 2 none (px_R 3) [.inr (some (0, 0, 0))] ids mG σ (px_r none ids mG res) :=
  pm_ofF (by decide +kernel) (Nat.le_of_ble_eq_true rfl) (e_Mo_takeText h ⟨rfl, rfl, rfl, rfl⟩)
/-! Mo_begins -/
def Mo_begins_n2 (σ : pxS) (v1 : Int32) : Option ((Int32 × pxS) ⊕ (pxS)) :=
  (if 308 ≤ v1 then some (.inr σ) else px_gd v1 308 (px_l (px_up σ (1, 28, 0) v1.toNatClampNeg 0) fun σ2 =>
  some (.inl ((v1 + 1), σ2))))
set_option maxRecDepth 100000 in
theorem Mo_begins_n2_l {l : Launch} {ids : List pxI} {Rt : Option pxV → List pxI → pxG → pxS → Prop} {σ : pxS} {v1 : Int32} {o : (Int32 × pxS) ⊕ (pxS)} (h : Mo_begins_n2 σ v1 = some o) (hC : ∀ s, o = .inl s → pw l (px_R 2) y_Mo_begins c_Mo_begins 2 none 2 [(0, .inr (some (0, 0, 0))), (1, .inl s.1)] [] ids mG s.2 0 0 Rt) (hX0 : ∀ e, o = .inr e → pw l (px_R 2) y_Mo_begins c_Mo_begins 2 none 22 [(0, .inr (some (0, 0, 0)))] [] ids mG e 0 0 Rt) : pw l (px_R 2) y_Mo_begins c_Mo_begins 2 none 2 [(0, .inr (some (0, 0, 0))), (1, .inl v1)] [] ids mG σ 0 0 Rt := by
  unfold Mo_begins_n2 at h
  refine pw_iload_n 1 (px_at td_Mo_begins 2 rfl) rfl rfl ?_
  refine pw_sipush (v := 308) (px_at td_Mo_begins 3 rfl) (by decide) ?_
  rcases px_ite h with ⟨hc3, h⟩ | ⟨hc3, h⟩
  · refine pw_icmp_ge 22 (px_at td_Mo_begins 4 rfl) (by decide) (fun _ => ?_) (fun hn => absurd hc3 hn)
    refine pw_L [(0, .inr (some (0, 0, 0)))] [0] rfl ?_
    exact hX0 σ (Option.some.inj h).symm
  · refine pw_icmp_ge 22 (px_at td_Mo_begins 4 rfl) (by decide) (fun hn => absurd hn hc3) (fun _ => ?_)
    refine pw_aload_n 0 (px_at td_Mo_begins 5 rfl) rfl rfl ?_
    refine pw_getf (v := .inr (some (1, 28, 0))) (px_at td_Mo_begins 6 rfl) lf_Mo_63 rfl rfl rfl ?_
    refine pw_iload_n 1 (px_at td_Mo_begins 7 rfl) rfl rfl ?_
    refine pw_iconst (v := 0) (px_at td_Mo_begins 8 rfl) (by decide) ?_
    obtain ⟨hi1, h⟩ := px_gd_e h
    obtain ⟨σ2, hσ2, h⟩ := px_l_e h
    refine pw_ias (px_at td_Mo_begins 9 rfl) rfl hi1 rfl hσ2 ?_
    refine pw_iinc (q := 1) (v := (v1 + 1)) (L' := [(1, .inl (v1 + 1)), (0, .inr (some (0, 0, 0)))]) (px_at td_Mo_begins 10 rfl) rfl rfl (by decide) rfl ?_
    refine pw_goto 2 (px_at td_Mo_begins 11 rfl) (by decide) ?_
    refine pw_L [(0, .inr (some (0, 0, 0))), (1, .inl (v1 + 1))] [1, 0] rfl ?_
    exact hC ((v1 + 1), σ2) (Option.some.inj h).symm
def Mo_begins_L2  : (Int32 × pxS) → Option ((Int32 × pxS) ⊕ (pxS)) := fun s => Mo_begins_n2 s.2 s.1
set_option maxRecDepth 100000 in
theorem Mo_begins_L2_l {l : Launch} {ids : List pxI} {Rt : Option pxV → List pxI → pxG → pxS → Prop}  {n : Nat} {s : Int32 × pxS} {e : pxS} (h : px_it (Mo_begins_L2 ) n s = some e) (hX0 : pw l (px_R 2) y_Mo_begins c_Mo_begins 2 none 22 [(0, .inr (some (0, 0, 0)))] [] ids mG e 0 0 Rt) : pw l (px_R 2) y_Mo_begins c_Mo_begins 2 none 2 [(0, .inr (some (0, 0, 0))), (1, .inl s.1)] [] ids mG s.2 0 0 Rt := by
  refine px_it_rule (f := Mo_begins_L2 ) (C := fun s => pw l (px_R 2) y_Mo_begins c_Mo_begins 2 none 2 [(0, .inr (some (0, 0, 0))), (1, .inl s.1)] [] ids mG s.2 0 0 Rt) (X := fun e => (pw l (px_R 2) y_Mo_begins c_Mo_begins 2 none 22 [(0, .inr (some (0, 0, 0)))] [] ids mG e 0 0 Rt)) ?_ ?_ n s e h hX0
  · intro s s1 hf hC
    exact Mo_begins_n2_l hf (fun s2 hs => by cases hs; exact hC) (fun e he => by cases he)
  · intro s e hf hX
    exact Mo_begins_n2_l hf (fun s2 hs => by cases hs) (fun e1 he => by cases he; exact hX)
def Mo_begins_n24 (σ : pxS) (v1 : Int32) : Option ((Int32 × pxS) ⊕ (pxS)) :=
  px_b1 (F_Mo_rails σ ) fun r5 =>
  (if r5 ≤ v1 then some (.inr σ) else px_gd ((13 * v1) + 4) 308 (px_l (px_up σ (1, 28, 0) ((13 * v1) + 4).toNatClampNeg (-2)) fun σ7 =>
  px_gd v1 24 (px_gd ((13 * v1) + 6) 308 (px_l (px_up σ7 (1, 28, 0) ((13 * v1) + 6).toNatClampNeg (σ7 (1, 10, 0) v1.toNatClampNeg)) fun σ10 =>
  px_gd v1 24 (px_gd ((13 * v1) + 7) 308 (px_l (px_up σ10 (1, 28, 0) ((13 * v1) + 7).toNatClampNeg (σ10 (1, 11, 0) v1.toNatClampNeg)) fun σ13 =>
  some (.inl ((v1 + 1), σ13))))))))
set_option maxRecDepth 100000 in
theorem Mo_begins_n24_l {l : Launch} {ids : List pxI} {Rt : Option pxV → List pxI → pxG → pxS → Prop} {σ : pxS} {v1 : Int32} {o : (Int32 × pxS) ⊕ (pxS)} (h : Mo_begins_n24 σ v1 = some o) (hC : ∀ s, o = .inl s → pw l (px_R 2) y_Mo_begins c_Mo_begins 2 none 24 [(0, .inr (some (0, 0, 0))), (1, .inl s.1)] [] ids mG s.2 0 0 Rt) (hX0 : ∀ e, o = .inr e → pw l (px_R 2) y_Mo_begins c_Mo_begins 2 none 87 [] [] ids mG e 0 0 Rt) : pw l (px_R 2) y_Mo_begins c_Mo_begins 2 none 24 [(0, .inr (some (0, 0, 0))), (1, .inl v1)] [] ids mG σ 0 0 Rt := by
  unfold Mo_begins_n24 at h
  refine pw_iload_n 1 (px_at td_Mo_begins 14 rfl) rfl rfl ?_
  refine pw_aload_n 0 (px_at td_Mo_begins 15 rfl) rfl rfl ?_
  obtain ⟨r5, hk5, h⟩ := px_b1_e h
  refine pw_cV1 (0, 0, 0) [] [.inl v1] (px_at td_Mo_begins 16 rfl) lV_Mo_223 rfl rfl rfl (Nat.le_of_ble_eq_true rfl) (by decide) (k_Mo_rails hk5) ?_
  rcases px_ite h with ⟨hc14, h⟩ | ⟨hc14, h⟩
  · refine pw_icmp_ge 87 (px_at td_Mo_begins 17 rfl) (by decide) (fun _ => ?_) (fun hn => absurd hc14 hn)
    refine pw_L [] [] rfl ?_
    exact hX0 σ (Option.some.inj h).symm
  · refine pw_icmp_ge 87 (px_at td_Mo_begins 17 rfl) (by decide) (fun hn => absurd hn hc14) (fun _ => ?_)
    refine pw_aload_n 0 (px_at td_Mo_begins 18 rfl) rfl rfl ?_
    refine pw_getf (v := .inr (some (1, 28, 0))) (px_at td_Mo_begins 19 rfl) lf_Mo_63 rfl rfl rfl ?_
    refine pw_bipush (v := 13) (px_at td_Mo_begins 20 rfl) (by decide) ?_
    refine pw_iload_n 1 (px_at td_Mo_begins 21 rfl) rfl rfl ?_
    refine pw_imul (px_at td_Mo_begins 22 rfl) ?_
    refine pw_iconst (v := 4) (px_at td_Mo_begins 23 rfl) (by decide) ?_
    refine pw_iadd (px_at td_Mo_begins 24 rfl) ?_
    refine pw_bipush (v := (-2)) (px_at td_Mo_begins 25 rfl) (by decide) ?_
    obtain ⟨hi6, h⟩ := px_gd_e h
    obtain ⟨σ7, hσ7, h⟩ := px_l_e h
    refine pw_ias (px_at td_Mo_begins 26 rfl) rfl hi6 rfl hσ7 ?_
    refine pw_aload_n 0 (px_at td_Mo_begins 27 rfl) rfl rfl ?_
    refine pw_getf (v := .inr (some (1, 28, 0))) (px_at td_Mo_begins 28 rfl) lf_Mo_63 rfl rfl rfl ?_
    refine pw_bipush (v := 13) (px_at td_Mo_begins 29 rfl) (by decide) ?_
    refine pw_iload_n 1 (px_at td_Mo_begins 30 rfl) rfl rfl ?_
    refine pw_imul (px_at td_Mo_begins 31 rfl) ?_
    refine pw_bipush (v := 6) (px_at td_Mo_begins 32 rfl) (by decide) ?_
    refine pw_iadd (px_at td_Mo_begins 33 rfl) ?_
    refine pw_aload_n 0 (px_at td_Mo_begins 34 rfl) rfl rfl ?_
    refine pw_getf (v := .inr (some (1, 10, 0))) (px_at td_Mo_begins 35 rfl) lf_Mo_35 rfl rfl rfl ?_
    refine pw_iload_n 1 (px_at td_Mo_begins 36 rfl) rfl rfl ?_
    obtain ⟨hi8, h⟩ := px_gd_e h
    refine pw_ial (px_at td_Mo_begins 37 rfl) rfl hi8 rfl ?_
    obtain ⟨hi9, h⟩ := px_gd_e h
    obtain ⟨σ10, hσ10, h⟩ := px_l_e h
    refine pw_ias (px_at td_Mo_begins 38 rfl) rfl hi9 rfl hσ10 ?_
    refine pw_aload_n 0 (px_at td_Mo_begins 39 rfl) rfl rfl ?_
    refine pw_getf (v := .inr (some (1, 28, 0))) (px_at td_Mo_begins 40 rfl) lf_Mo_63 rfl rfl rfl ?_
    refine pw_bipush (v := 13) (px_at td_Mo_begins 41 rfl) (by decide) ?_
    refine pw_iload_n 1 (px_at td_Mo_begins 42 rfl) rfl rfl ?_
    refine pw_imul (px_at td_Mo_begins 43 rfl) ?_
    refine pw_bipush (v := 7) (px_at td_Mo_begins 44 rfl) (by decide) ?_
    refine pw_iadd (px_at td_Mo_begins 45 rfl) ?_
    refine pw_aload_n 0 (px_at td_Mo_begins 46 rfl) rfl rfl ?_
    refine pw_getf (v := .inr (some (1, 11, 0))) (px_at td_Mo_begins 47 rfl) lf_Mo_38 rfl rfl rfl ?_
    refine pw_iload_n 1 (px_at td_Mo_begins 48 rfl) rfl rfl ?_
    obtain ⟨hi11, h⟩ := px_gd_e h
    refine pw_ial (px_at td_Mo_begins 49 rfl) rfl hi11 rfl ?_
    obtain ⟨hi12, h⟩ := px_gd_e h
    obtain ⟨σ13, hσ13, h⟩ := px_l_e h
    refine pw_ias (px_at td_Mo_begins 50 rfl) rfl hi12 rfl hσ13 ?_
    refine pw_iinc (q := 1) (v := (v1 + 1)) (L' := [(1, .inl (v1 + 1)), (0, .inr (some (0, 0, 0)))]) (px_at td_Mo_begins 51 rfl) rfl rfl (by decide) rfl ?_
    refine pw_goto 24 (px_at td_Mo_begins 52 rfl) (by decide) ?_
    refine pw_L [(0, .inr (some (0, 0, 0))), (1, .inl (v1 + 1))] [1, 0] rfl ?_
    exact hC ((v1 + 1), σ13) (Option.some.inj h).symm
def Mo_begins_L24  : (Int32 × pxS) → Option ((Int32 × pxS) ⊕ (pxS)) := fun s => Mo_begins_n24 s.2 s.1
set_option maxRecDepth 100000 in
theorem Mo_begins_L24_l {l : Launch} {ids : List pxI} {Rt : Option pxV → List pxI → pxG → pxS → Prop}  {n : Nat} {s : Int32 × pxS} {e : pxS} (h : px_it (Mo_begins_L24 ) n s = some e) (hX0 : pw l (px_R 2) y_Mo_begins c_Mo_begins 2 none 87 [] [] ids mG e 0 0 Rt) : pw l (px_R 2) y_Mo_begins c_Mo_begins 2 none 24 [(0, .inr (some (0, 0, 0))), (1, .inl s.1)] [] ids mG s.2 0 0 Rt := by
  refine px_it_rule (f := Mo_begins_L24 ) (C := fun s => pw l (px_R 2) y_Mo_begins c_Mo_begins 2 none 24 [(0, .inr (some (0, 0, 0))), (1, .inl s.1)] [] ids mG s.2 0 0 Rt) (X := fun e => (pw l (px_R 2) y_Mo_begins c_Mo_begins 2 none 87 [] [] ids mG e 0 0 Rt)) ?_ ?_ n s e h hX0
  · intro s s1 hf hC
    exact Mo_begins_n24_l hf (fun s2 hs => by cases hs; exact hC) (fun e he => by cases he)
  · intro s e hf hX
    exact Mo_begins_n24_l hf (fun s2 hs => by cases hs) (fun e1 he => by cases he; exact hX)
def F_Mo_begins (σ : pxS)  : Option (pxS) :=
  px_b1 (px_it (Mo_begins_L2 ) px_N (0, σ)) fun e4 =>
  px_b1 (px_it (Mo_begins_L24 ) px_N (0, e4)) fun e15 =>
  some e15
set_option maxRecDepth 100000 in
theorem e_Mo_begins {l : Launch} {ids : List pxI} {Rt : Option pxV → List pxI → pxG → pxS → Prop} {σ : pxS}  {res : pxS} (h : F_Mo_begins σ  = some res) (hR : Rt none ids mG res) : pw l (px_R 2) y_Mo_begins c_Mo_begins 2 none 0 [(0, .inr (some (0, 0, 0)))] [] ids mG σ 0 0 Rt := by
  unfold F_Mo_begins at h
  refine pw_iconst (v := 0) (px_at td_Mo_begins 0 rfl) (by decide) ?_
  refine pw_istore_n (L' := [(1, .inl 0), (0, .inr (some (0, 0, 0)))]) (px_at td_Mo_begins 1 rfl) rfl (by decide) rfl ?_
  obtain ⟨e4, he4, h⟩ := px_b1_e h
  refine pw_L [(0, .inr (some (0, 0, 0))), (1, .inl 0)] [1, 0] rfl ?_
  refine Mo_begins_L2_l he4 ?_
  refine pw_iconst (v := 0) (px_at td_Mo_begins 12 rfl) (by decide) ?_
  refine pw_istore_n (L' := [(1, .inl 0), (0, .inr (some (0, 0, 0)))]) (px_at td_Mo_begins 13 rfl) rfl (by decide) rfl ?_
  obtain ⟨e15, he15, h⟩ := px_b1_e h
  refine pw_L [(0, .inr (some (0, 0, 0))), (1, .inl 0)] [1, 0] rfl ?_
  refine Mo_begins_L24_l he15 ?_
  obtain rfl := Option.some.inj h
  exact pw_vret (px_at td_Mo_begins 53 rfl) rfl (Nat.le_refl 0) (Nat.le_refl 0) hR
theorem k_Mo_begins {l : Launch} {ids : List pxI} {σ : pxS}  {res : pxS} (h : F_Mo_begins σ  = some res) : pm l y_Mo_begins c_Mo_begins 2 none (px_R 2) [.inr (some (0, 0, 0))] ids mG σ (px_r none ids mG res) :=
  pm_ofF (by decide +kernel) (Nat.le_of_ble_eq_true rfl) (e_Mo_begins h ⟨rfl, rfl, rfl, rfl⟩)
/-! Mo_text -/
def Mo_text_n17 (σ : pxS)  : Option (Int32 × pxS) :=
  some ((-2), σ)
set_option maxRecDepth 100000 in
theorem Mo_text_n17_l {l : Launch} {ids : List pxI} {Rt : Option pxV → List pxI → pxG → pxS → Prop} {σ : pxS}  {res : Int32 × pxS} (h : Mo_text_n17 σ  = some res) (hR : Rt (some (.inl res.1)) ids mG res.2) : pw l (px_R 14) y_Mo_text c_Mo_text 2 (some .int) 17 [] [] ids mG σ 0 0 Rt := by
  unfold Mo_text_n17 at h
  refine pw_bipush (v := (-2)) (px_at td_Mo_text 9 rfl) (by decide) ?_
  obtain rfl := Option.some.inj h
  exact pw_iret (px_at td_Mo_text 10 rfl) rfl (Nat.le_refl 0) (Nat.le_refl 0) hR
def F_Mo_text (σ : pxS) (v1 : Int32) : Option (Int32 × pxS) :=
  px_l (px_up σ (0, 0, 0) 0 0) fun σ1 =>
  (if v1 < 0 then Mo_text_n17 σ1  else (if v1 ≤ (σ1 (0, 0, 0) 2) then px_b1 (F_Mo_readText σ1 v1) fun σ2 =>
  px_l (px_up σ2 (0, 0, 0) 2 0) fun σ3 =>
  px_l (px_up σ3 (0, 0, 0) 24 (σ3 (0, 0, 0) 22)) fun σ4 =>
  (if (σ4 (0, 0, 0) 22) = 0 then px_l (px_up σ4 (0, 0, 0) 25 (-1)) fun σ11 =>
  (if (σ11 (0, 0, 0) 22) = 0 then px_b1 (F_Mo_takeText σ11 ) fun σ12 =>
  px_b1 (F_Mo_begins σ12 ) fun σ13 =>
  px_l (px_up σ13 (0, 0, 0) 32 0) fun σ14 =>
  px_l (px_up σ14 (0, 0, 0) 33 0) fun σ15 =>
  some ((σ15 (0, 0, 0) 16), σ15) else some ((-1), σ11)) else px_l (px_up σ4 (0, 0, 0) 25 (σ4 (0, 0, 0) 23)) fun σ5 =>
  (if (σ5 (0, 0, 0) 22) = 0 then px_b1 (F_Mo_takeText σ5 ) fun σ6 =>
  px_b1 (F_Mo_begins σ6 ) fun σ7 =>
  px_l (px_up σ7 (0, 0, 0) 32 0) fun σ8 =>
  px_l (px_up σ8 (0, 0, 0) 33 0) fun σ9 =>
  some ((σ9 (0, 0, 0) 16), σ9) else some ((-1), σ5))) else Mo_text_n17 σ1 ))
set_option maxRecDepth 100000 in
theorem e_Mo_text {l : Launch} {ids : List pxI} {Rt : Option pxV → List pxI → pxG → pxS → Prop} {σ : pxS} {v1 : Int32} {res : Int32 × pxS} (h : F_Mo_text σ v1 = some res) (hR : Rt (some (.inl res.1)) ids mG res.2) : pw l (px_R 14) y_Mo_text c_Mo_text 2 (some .int) 0 [(0, .inr (some (0, 0, 0))), (1, .inl v1)] [] ids mG σ 0 0 Rt := by
  unfold F_Mo_text at h
  refine pw_aload_n 0 (px_at td_Mo_text 0 rfl) rfl rfl ?_
  refine pw_iconst (v := 0) (px_at td_Mo_text 1 rfl) (by decide) ?_
  obtain ⟨σ1, hσ1, h⟩ := px_l_e h
  refine pw_puti (px_at td_Mo_text 2 rfl) lw_Mo_99 rfl rfl (pw_s hσ1 ?_)
  refine pw_iload_n 1 (px_at td_Mo_text 3 rfl) rfl rfl ?_
  rcases px_ite h with ⟨hc19, h⟩ | ⟨hc19, h⟩
  · refine pw_if_lt 17 (px_at td_Mo_text 4 rfl) (by decide) (fun _ => ?_) (fun hn => absurd hc19 hn)
    refine pw_L [] [] rfl ?_
    exact Mo_text_n17_l h hR
  · refine pw_if_lt 17 (px_at td_Mo_text 4 rfl) (by decide) (fun hn => absurd hn hc19) (fun _ => ?_)
    refine pw_iload_n 1 (px_at td_Mo_text 5 rfl) rfl rfl ?_
    refine pw_aload_n 0 (px_at td_Mo_text 6 rfl) rfl rfl ?_
    refine pw_getf (v := .inl (σ1 (0, 0, 0) 2)) (px_at td_Mo_text 7 rfl) lf_Mo_102 rfl rfl rfl ?_
    rcases px_ite h with ⟨hc18, h⟩ | ⟨hc18, h⟩
    · refine pw_icmp_le 20 (px_at td_Mo_text 8 rfl) (by decide) (fun _ => ?_) (fun hn => absurd hc18 hn)
      refine pw_aload_n 0 (px_at td_Mo_text 11 rfl) rfl rfl ?_
      refine pw_iload_n 1 (px_at td_Mo_text 12 rfl) rfl rfl ?_
      obtain ⟨σ2, hk2, h⟩ := px_b1_e h
      refine pw_cV0 (0, 0, 0) [.inl v1] [] (px_at td_Mo_text 13 rfl) lV_Mo_210 rfl rfl rfl (Nat.le_of_ble_eq_true rfl) (by decide) (k_Mo_readText hk2) ?_
      refine pw_aload_n 0 (px_at td_Mo_text 14 rfl) rfl rfl ?_
      refine pw_iconst (v := 0) (px_at td_Mo_text 15 rfl) (by decide) ?_
      obtain ⟨σ3, hσ3, h⟩ := px_l_e h
      refine pw_puti (px_at td_Mo_text 16 rfl) lw_Mo_102 rfl rfl (pw_s hσ3 ?_)
      refine pw_aload_n 0 (px_at td_Mo_text 17 rfl) rfl rfl ?_
      refine pw_aload_n 0 (px_at td_Mo_text 18 rfl) rfl rfl ?_
      refine pw_getf (v := .inl (σ3 (0, 0, 0) 22)) (px_at td_Mo_text 19 rfl) lf_Mo_149 rfl rfl rfl ?_
      obtain ⟨σ4, hσ4, h⟩ := px_l_e h
      refine pw_puti (px_at td_Mo_text 20 rfl) lw_Mo_213 rfl rfl (pw_s hσ4 ?_)
      refine pw_aload_n 0 (px_at td_Mo_text 21 rfl) rfl rfl ?_
      refine pw_aload_n 0 (px_at td_Mo_text 22 rfl) rfl rfl ?_
      refine pw_getf (v := .inl (σ4 (0, 0, 0) 22)) (px_at td_Mo_text 23 rfl) lf_Mo_149 rfl rfl rfl ?_
      rcases px_ite h with ⟨hc17, h⟩ | ⟨hc17, h⟩
      · refine pw_if_ne 50 (px_at td_Mo_text 24 rfl) (by decide) (fun hn => absurd hc17 hn) (fun _ => ?_)
        refine pw_iconst (v := (-1)) (px_at td_Mo_text 25 rfl) (by decide) ?_
        refine pw_goto 54 (px_at td_Mo_text 26 rfl) (by decide) ?_
        obtain ⟨σ11, hσ11, h⟩ := px_l_e h
        refine pw_puti (px_at td_Mo_text 29 rfl) lw_Mo_53 rfl rfl (pw_s hσ11 ?_)
        refine pw_aload_n 0 (px_at td_Mo_text 30 rfl) rfl rfl ?_
        refine pw_getf (v := .inl (σ11 (0, 0, 0) 22)) (px_at td_Mo_text 31 rfl) lf_Mo_149 rfl rfl rfl ?_
        rcases px_ite h with ⟨hc16, h⟩ | ⟨hc16, h⟩
        · refine pw_if_eq 66 (px_at td_Mo_text 32 rfl) (by decide) (fun _ => ?_) (fun hn => absurd hc16 hn)
          refine pw_aload_n 0 (px_at td_Mo_text 35 rfl) rfl rfl ?_
          obtain ⟨σ12, hk12, h⟩ := px_b1_e h
          refine pw_cV0 (0, 0, 0) [] [] (px_at td_Mo_text 36 rfl) lV_Mo_93 rfl rfl rfl (Nat.le_of_ble_eq_true rfl) (by decide) (k_Mo_takeText hk12) ?_
          refine pw_aload_n 0 (px_at td_Mo_text 37 rfl) rfl rfl ?_
          obtain ⟨σ13, hk13, h⟩ := px_b1_e h
          refine pw_cV0 (0, 0, 0) [] [] (px_at td_Mo_text 38 rfl) lV_Mo_96 rfl rfl rfl (Nat.le_of_ble_eq_true rfl) (by decide) (k_Mo_begins hk13) ?_
          refine pw_aload_n 0 (px_at td_Mo_text 39 rfl) rfl rfl ?_
          refine pw_iconst (v := 0) (px_at td_Mo_text 40 rfl) (by decide) ?_
          obtain ⟨σ14, hσ14, h⟩ := px_l_e h
          refine pw_puti (px_at td_Mo_text 41 rfl) lw_Mo_216 rfl rfl (pw_s hσ14 ?_)
          refine pw_aload_n 0 (px_at td_Mo_text 42 rfl) rfl rfl ?_
          refine pw_iconst (v := 0) (px_at td_Mo_text 43 rfl) (by decide) ?_
          obtain ⟨σ15, hσ15, h⟩ := px_l_e h
          refine pw_putz (px_at td_Mo_text 44 rfl) lw_Mo_219 rfl rfl (by decide) (pw_s hσ15 ?_)
          refine pw_aload_n 0 (px_at td_Mo_text 45 rfl) rfl rfl ?_
          refine pw_getf (v := .inl (σ15 (0, 0, 0) 16)) (px_at td_Mo_text 46 rfl) lf_Mo_201 rfl rfl rfl ?_
          obtain rfl := Option.some.inj h
          exact pw_iret (px_at td_Mo_text 47 rfl) rfl (Nat.le_refl 0) (Nat.le_refl 0) hR
        · refine pw_if_eq 66 (px_at td_Mo_text 32 rfl) (by decide) (fun hn => absurd hn hc16) (fun _ => ?_)
          refine pw_iconst (v := (-1)) (px_at td_Mo_text 33 rfl) (by decide) ?_
          obtain rfl := Option.some.inj h
          exact pw_iret (px_at td_Mo_text 34 rfl) rfl (Nat.le_refl 0) (Nat.le_refl 0) hR
      · refine pw_if_ne 50 (px_at td_Mo_text 24 rfl) (by decide) (fun _ => ?_) (fun hn => absurd hn hc17)
        refine pw_aload_n 0 (px_at td_Mo_text 27 rfl) rfl rfl ?_
        refine pw_getf (v := .inl (σ4 (0, 0, 0) 23)) (px_at td_Mo_text 28 rfl) lf_Mo_152 rfl rfl rfl ?_
        obtain ⟨σ5, hσ5, h⟩ := px_l_e h
        refine pw_puti (px_at td_Mo_text 29 rfl) lw_Mo_53 rfl rfl (pw_s hσ5 ?_)
        refine pw_aload_n 0 (px_at td_Mo_text 30 rfl) rfl rfl ?_
        refine pw_getf (v := .inl (σ5 (0, 0, 0) 22)) (px_at td_Mo_text 31 rfl) lf_Mo_149 rfl rfl rfl ?_
        rcases px_ite h with ⟨hc10, h⟩ | ⟨hc10, h⟩
        · refine pw_if_eq 66 (px_at td_Mo_text 32 rfl) (by decide) (fun _ => ?_) (fun hn => absurd hc10 hn)
          refine pw_aload_n 0 (px_at td_Mo_text 35 rfl) rfl rfl ?_
          obtain ⟨σ6, hk6, h⟩ := px_b1_e h
          refine pw_cV0 (0, 0, 0) [] [] (px_at td_Mo_text 36 rfl) lV_Mo_93 rfl rfl rfl (Nat.le_of_ble_eq_true rfl) (by decide) (k_Mo_takeText hk6) ?_
          refine pw_aload_n 0 (px_at td_Mo_text 37 rfl) rfl rfl ?_
          obtain ⟨σ7, hk7, h⟩ := px_b1_e h
          refine pw_cV0 (0, 0, 0) [] [] (px_at td_Mo_text 38 rfl) lV_Mo_96 rfl rfl rfl (Nat.le_of_ble_eq_true rfl) (by decide) (k_Mo_begins hk7) ?_
          refine pw_aload_n 0 (px_at td_Mo_text 39 rfl) rfl rfl ?_
          refine pw_iconst (v := 0) (px_at td_Mo_text 40 rfl) (by decide) ?_
          obtain ⟨σ8, hσ8, h⟩ := px_l_e h
          refine pw_puti (px_at td_Mo_text 41 rfl) lw_Mo_216 rfl rfl (pw_s hσ8 ?_)
          refine pw_aload_n 0 (px_at td_Mo_text 42 rfl) rfl rfl ?_
          refine pw_iconst (v := 0) (px_at td_Mo_text 43 rfl) (by decide) ?_
          obtain ⟨σ9, hσ9, h⟩ := px_l_e h
          refine pw_putz (px_at td_Mo_text 44 rfl) lw_Mo_219 rfl rfl (by decide) (pw_s hσ9 ?_)
          refine pw_aload_n 0 (px_at td_Mo_text 45 rfl) rfl rfl ?_
          refine pw_getf (v := .inl (σ9 (0, 0, 0) 16)) (px_at td_Mo_text 46 rfl) lf_Mo_201 rfl rfl rfl ?_
          obtain rfl := Option.some.inj h
          exact pw_iret (px_at td_Mo_text 47 rfl) rfl (Nat.le_refl 0) (Nat.le_refl 0) hR
        · refine pw_if_eq 66 (px_at td_Mo_text 32 rfl) (by decide) (fun hn => absurd hn hc10) (fun _ => ?_)
          refine pw_iconst (v := (-1)) (px_at td_Mo_text 33 rfl) (by decide) ?_
          obtain rfl := Option.some.inj h
          exact pw_iret (px_at td_Mo_text 34 rfl) rfl (Nat.le_refl 0) (Nat.le_refl 0) hR
    · refine pw_icmp_le 20 (px_at td_Mo_text 8 rfl) (by decide) (fun hn => absurd hn hc18) (fun _ => ?_)
      refine pw_L [] [] rfl ?_
      exact Mo_text_n17_l h hR
theorem k_Mo_text {l : Launch} {ids : List pxI} {σ : pxS} {v1 : Int32} {res : Int32 × pxS} (h : F_Mo_text σ v1 = some res) : pm l y_Mo_text c_Mo_text 2 (some .int) (px_R 14) [.inr (some (0, 0, 0)), .inl v1] ids mG σ (px_r (some (.inl res.1)) ids mG res.2) :=
  pm_ofF (by decide +kernel) (Nat.le_of_ble_eq_true rfl) (e_Mo_text h ⟨rfl, rfl, rfl, rfl⟩)
/-! Mo_fault -/
def F_Mo_fault (σ : pxS) (v1 : Int32) : Option (Int32 × pxS) :=
  px_l (px_up σ (0, 0, 0) 0 0) fun σ1 =>
  (if v1 = 0 then some ((σ1 (0, 0, 0) 24), σ1) else (if v1 = 1 then some ((σ1 (0, 0, 0) 25), σ1) else some ((-1), σ1)))
set_option maxRecDepth 100000 in
theorem e_Mo_fault {l : Launch} {ids : List pxI} {Rt : Option pxV → List pxI → pxG → pxS → Prop} {σ : pxS} {v1 : Int32} {res : Int32 × pxS} (h : F_Mo_fault σ v1 = some res) (hR : Rt (some (.inl res.1)) ids mG res.2) : pw l (px_R 1) y_Mo_fault c_Mo_fault 2 (some .int) 0 [(0, .inr (some (0, 0, 0))), (1, .inl v1)] [] ids mG σ 0 0 Rt := by
  unfold F_Mo_fault at h
  refine pw_aload_n 0 (px_at td_Mo_fault 0 rfl) rfl rfl ?_
  refine pw_iconst (v := 0) (px_at td_Mo_fault 1 rfl) (by decide) ?_
  obtain ⟨σ1, hσ1, h⟩ := px_l_e h
  refine pw_puti (px_at td_Mo_fault 2 rfl) lw_Mo_99 rfl rfl (pw_s hσ1 ?_)
  refine pw_iload_n 1 (px_at td_Mo_fault 3 rfl) rfl rfl ?_
  rcases px_ite h with ⟨hc3, h⟩ | ⟨hc3, h⟩
  · refine pw_if_ne 16 (px_at td_Mo_fault 4 rfl) (by decide) (fun hn => absurd hc3 hn) (fun _ => ?_)
    refine pw_aload_n 0 (px_at td_Mo_fault 5 rfl) rfl rfl ?_
    refine pw_getf (v := .inl (σ1 (0, 0, 0) 24)) (px_at td_Mo_fault 6 rfl) lf_Mo_213 rfl rfl rfl ?_
    refine pw_goto 29 (px_at td_Mo_fault 7 rfl) (by decide) ?_
    obtain rfl := Option.some.inj h
    exact pw_iret (px_at td_Mo_fault 15 rfl) rfl (Nat.le_refl 0) (Nat.le_refl 0) hR
  · refine pw_if_ne 16 (px_at td_Mo_fault 4 rfl) (by decide) (fun _ => ?_) (fun hn => absurd hn hc3)
    refine pw_iload_n 1 (px_at td_Mo_fault 8 rfl) rfl rfl ?_
    refine pw_iconst (v := 1) (px_at td_Mo_fault 9 rfl) (by decide) ?_
    rcases px_ite h with ⟨hc2, h⟩ | ⟨hc2, h⟩
    · refine pw_icmp_ne 28 (px_at td_Mo_fault 10 rfl) (by decide) (fun hn => absurd hc2 hn) (fun _ => ?_)
      refine pw_aload_n 0 (px_at td_Mo_fault 11 rfl) rfl rfl ?_
      refine pw_getf (v := .inl (σ1 (0, 0, 0) 25)) (px_at td_Mo_fault 12 rfl) lf_Mo_53 rfl rfl rfl ?_
      refine pw_goto 29 (px_at td_Mo_fault 13 rfl) (by decide) ?_
      obtain rfl := Option.some.inj h
      exact pw_iret (px_at td_Mo_fault 15 rfl) rfl (Nat.le_refl 0) (Nat.le_refl 0) hR
    · refine pw_icmp_ne 28 (px_at td_Mo_fault 10 rfl) (by decide) (fun _ => ?_) (fun hn => absurd hn hc2)
      refine pw_iconst (v := (-1)) (px_at td_Mo_fault 14 rfl) (by decide) ?_
      obtain rfl := Option.some.inj h
      exact pw_iret (px_at td_Mo_fault 15 rfl) rfl (Nat.le_refl 0) (Nat.le_refl 0) hR
theorem k_Mo_fault {l : Launch} {ids : List pxI} {σ : pxS} {v1 : Int32} {res : Int32 × pxS} (h : F_Mo_fault σ v1 = some res) : pm l y_Mo_fault c_Mo_fault 2 (some .int) (px_R 1) [.inr (some (0, 0, 0)), .inl v1] ids mG σ (px_r (some (.inl res.1)) ids mG res.2) :=
  pm_ofF (by decide +kernel) (Nat.le_of_ble_eq_true rfl) (e_Mo_fault h ⟨rfl, rfl, rfl, rfl⟩)
/-! Mo_named -/
def F_Mo_named (σ : pxS) (v1 : Int32) : Option (Int32 × pxS) :=
  px_l (px_up σ (0, 0, 0) 0 0) fun σ1 =>
  px_b1 (F_Mo_rails σ1 ) fun r2 =>
  px_b1 (F_Mo_namedAt σ1 0 r2 v1) fun r3 =>
  some (r3, σ1)
set_option maxRecDepth 100000 in
theorem e_Mo_named {l : Launch} {ids : List pxI} {Rt : Option pxV → List pxI → pxG → pxS → Prop} {σ : pxS} {v1 : Int32} {res : Int32 × pxS} (h : F_Mo_named σ v1 = some res) (hR : Rt (some (.inl res.1)) ids mG res.2) : pw l (px_R 2) y_Mo_named c_Mo_named 2 (some .int) 0 [(0, .inr (some (0, 0, 0))), (1, .inl v1)] [] ids mG σ 0 0 Rt := by
  unfold F_Mo_named at h
  refine pw_aload_n 0 (px_at td_Mo_named 0 rfl) rfl rfl ?_
  refine pw_iconst (v := 0) (px_at td_Mo_named 1 rfl) (by decide) ?_
  obtain ⟨σ1, hσ1, h⟩ := px_l_e h
  refine pw_puti (px_at td_Mo_named 2 rfl) lw_Mo_99 rfl rfl (pw_s hσ1 ?_)
  refine pw_aload_n 0 (px_at td_Mo_named 3 rfl) rfl rfl ?_
  refine pw_iconst (v := 0) (px_at td_Mo_named 4 rfl) (by decide) ?_
  refine pw_aload_n 0 (px_at td_Mo_named 5 rfl) rfl rfl ?_
  obtain ⟨r2, hk2, h⟩ := px_b1_e h
  refine pw_cV1 (0, 0, 0) [] [.inl 0, .inr (some (0, 0, 0))] (px_at td_Mo_named 6 rfl) lV_Mo_223 rfl rfl rfl (Nat.le_of_ble_eq_true rfl) (by decide) (k_Mo_rails hk2) ?_
  refine pw_iload_n 1 (px_at td_Mo_named 7 rfl) rfl rfl ?_
  obtain ⟨r3, hk3, h⟩ := px_b1_e h
  refine pw_cV1 (0, 0, 0) [.inl 0, .inl r2, .inl v1] [] (px_at td_Mo_named 8 rfl) lV_Mo_177 rfl rfl rfl (Nat.le_of_ble_eq_true rfl) (by decide) (k_Mo_namedAt hk3) ?_
  obtain rfl := Option.some.inj h
  exact pw_iret (px_at td_Mo_named 9 rfl) rfl (Nat.le_refl 0) (Nat.le_refl 0) hR
theorem k_Mo_named {l : Launch} {ids : List pxI} {σ : pxS} {v1 : Int32} {res : Int32 × pxS} (h : F_Mo_named σ v1 = some res) : pm l y_Mo_named c_Mo_named 2 (some .int) (px_R 2) [.inr (some (0, 0, 0)), .inl v1] ids mG σ (px_r (some (.inl res.1)) ids mG res.2) :=
  pm_ofF (by decide +kernel) (Nat.le_of_ble_eq_true rfl) (e_Mo_named h ⟨rfl, rfl, rfl, rfl⟩)
/-! Mo_hangOn -/
def Mo_hangOn_n32 (σ : pxS) (v1 : Int32) (v2 : Int32) (v3 : Int32) : Option ((Int32 × Int32) ⊕ (Int32)) :=
  some (.inl (v2, (v3 + 1)))
set_option maxRecDepth 100000 in
theorem Mo_hangOn_n32_l {l : Launch} {ids : List pxI} {Rt : Option pxV → List pxI → pxG → pxS → Prop} {σ : pxS} {v1 : Int32} {v2 : Int32} {v3 : Int32} {o : (Int32 × Int32) ⊕ (Int32)} (h : Mo_hangOn_n32 σ v1 v2 v3 = some o) (hC : ∀ s, o = .inl s → pw l (px_R 2) y_Mo_hangOn c_Mo_hangOn 4 (some .int) 4 [(0, .inr (some (0, 0, 0))), (1, .inl v1), (2, .inl s.1), (3, .inl s.2)] [] ids mG σ 0 0 Rt) (hX0 : ∀ e, o = .inr e → pw l (px_R 2) y_Mo_hangOn c_Mo_hangOn 4 (some .int) 38 [(2, .inl e)] [] ids mG σ 0 0 Rt) : pw l (px_R 2) y_Mo_hangOn c_Mo_hangOn 4 (some .int) 32 [(0, .inr (some (0, 0, 0))), (1, .inl v1), (2, .inl v2), (3, .inl v3)] [] ids mG σ 0 0 Rt := by
  unfold Mo_hangOn_n32 at h
  refine pw_iinc (q := 3) (v := (v3 + 1)) (L' := [(3, .inl (v3 + 1)), (0, .inr (some (0, 0, 0))), (1, .inl v1), (2, .inl v2)]) (px_at td_Mo_hangOn 24 rfl) rfl rfl (by decide) rfl ?_
  refine pw_goto 4 (px_at td_Mo_hangOn 25 rfl) (by decide) ?_
  refine pw_L [(0, .inr (some (0, 0, 0))), (1, .inl v1), (2, .inl v2), (3, .inl (v3 + 1))] [1, 2, 3, 0] rfl ?_
  exact hC (v2, (v3 + 1)) (Option.some.inj h).symm
def Mo_hangOn_n4 (σ : pxS) (v1 : Int32) (v2 : Int32) (v3 : Int32) : Option ((Int32 × Int32) ⊕ (Int32)) :=
  px_b1 (F_Mo_rails σ ) fun r1 =>
  (if r1 ≤ v3 then some (.inr v2) else px_gd v3 12 ((if (((σ (1, 27, 0) v3.toNatClampNeg) >>> (v1 &&& 31)) &&& 1) = 1 then Mo_hangOn_n32 σ v1 (v2 ||| (1 <<< (v3 &&& 31))) v3 else Mo_hangOn_n32 σ v1 v2 v3)))
set_option maxRecDepth 100000 in
theorem Mo_hangOn_n4_l {l : Launch} {ids : List pxI} {Rt : Option pxV → List pxI → pxG → pxS → Prop} {σ : pxS} {v1 : Int32} {v2 : Int32} {v3 : Int32} {o : (Int32 × Int32) ⊕ (Int32)} (h : Mo_hangOn_n4 σ v1 v2 v3 = some o) (hC : ∀ s, o = .inl s → pw l (px_R 2) y_Mo_hangOn c_Mo_hangOn 4 (some .int) 4 [(0, .inr (some (0, 0, 0))), (1, .inl v1), (2, .inl s.1), (3, .inl s.2)] [] ids mG σ 0 0 Rt) (hX0 : ∀ e, o = .inr e → pw l (px_R 2) y_Mo_hangOn c_Mo_hangOn 4 (some .int) 38 [(2, .inl e)] [] ids mG σ 0 0 Rt) : pw l (px_R 2) y_Mo_hangOn c_Mo_hangOn 4 (some .int) 4 [(0, .inr (some (0, 0, 0))), (1, .inl v1), (2, .inl v2), (3, .inl v3)] [] ids mG σ 0 0 Rt := by
  unfold Mo_hangOn_n4 at h
  refine pw_iload_n 3 (px_at td_Mo_hangOn 4 rfl) rfl rfl ?_
  refine pw_aload_n 0 (px_at td_Mo_hangOn 5 rfl) rfl rfl ?_
  obtain ⟨r1, hk1, h⟩ := px_b1_e h
  refine pw_cV1 (0, 0, 0) [] [.inl v3] (px_at td_Mo_hangOn 6 rfl) lV_Mo_223 rfl rfl rfl (Nat.le_of_ble_eq_true rfl) (by decide) (k_Mo_rails hk1) ?_
  rcases px_ite h with ⟨hc4, h⟩ | ⟨hc4, h⟩
  · refine pw_icmp_ge 38 (px_at td_Mo_hangOn 7 rfl) (by decide) (fun _ => ?_) (fun hn => absurd hc4 hn)
    refine pw_L [(2, .inl v2)] [2] rfl ?_
    exact hX0 v2 (Option.some.inj h).symm
  · refine pw_icmp_ge 38 (px_at td_Mo_hangOn 7 rfl) (by decide) (fun hn => absurd hn hc4) (fun _ => ?_)
    refine pw_aload_n 0 (px_at td_Mo_hangOn 8 rfl) rfl rfl ?_
    refine pw_getf (v := .inr (some (1, 27, 0))) (px_at td_Mo_hangOn 9 rfl) lf_Mo_60 rfl rfl rfl ?_
    refine pw_iload_n 3 (px_at td_Mo_hangOn 10 rfl) rfl rfl ?_
    obtain ⟨hi2, h⟩ := px_gd_e h
    refine pw_ial (px_at td_Mo_hangOn 11 rfl) rfl hi2 rfl ?_
    refine pw_iload_n 1 (px_at td_Mo_hangOn 12 rfl) rfl rfl ?_
    refine pw_ishr (px_at td_Mo_hangOn 13 rfl) ?_
    refine pw_iconst (v := 1) (px_at td_Mo_hangOn 14 rfl) (by decide) ?_
    refine pw_iand (px_at td_Mo_hangOn 15 rfl) ?_
    refine pw_iconst (v := 1) (px_at td_Mo_hangOn 16 rfl) (by decide) ?_
    rcases px_ite h with ⟨hc3, h⟩ | ⟨hc3, h⟩
    · refine pw_icmp_ne 32 (px_at td_Mo_hangOn 17 rfl) (by decide) (fun hn => absurd hc3 hn) (fun _ => ?_)
      refine pw_iload_n 2 (px_at td_Mo_hangOn 18 rfl) rfl rfl ?_
      refine pw_iconst (v := 1) (px_at td_Mo_hangOn 19 rfl) (by decide) ?_
      refine pw_iload_n 3 (px_at td_Mo_hangOn 20 rfl) rfl rfl ?_
      refine pw_ishl (px_at td_Mo_hangOn 21 rfl) ?_
      refine pw_ior (px_at td_Mo_hangOn 22 rfl) ?_
      refine pw_istore_n (L' := [(2, .inl (v2 ||| (1 <<< (v3 &&& 31)))), (0, .inr (some (0, 0, 0))), (1, .inl v1), (3, .inl v3)]) (px_at td_Mo_hangOn 23 rfl) rfl (by decide) rfl ?_
      refine pw_L [(0, .inr (some (0, 0, 0))), (1, .inl v1), (2, .inl (v2 ||| (1 <<< (v3 &&& 31)))), (3, .inl v3)] [1, 2, 0, 3] rfl ?_
      exact Mo_hangOn_n32_l h hC hX0
    · refine pw_icmp_ne 32 (px_at td_Mo_hangOn 17 rfl) (by decide) (fun _ => ?_) (fun hn => absurd hn hc3)
      exact Mo_hangOn_n32_l h hC hX0
def Mo_hangOn_L4 (σ : pxS) (v1 : Int32) : (Int32 × Int32) → Option ((Int32 × Int32) ⊕ (Int32)) := fun s => Mo_hangOn_n4 σ v1 s.1 s.2
set_option maxRecDepth 100000 in
theorem Mo_hangOn_L4_l {l : Launch} {ids : List pxI} {Rt : Option pxV → List pxI → pxG → pxS → Prop} {σ : pxS} {v1 : Int32} {n : Nat} {s : Int32 × Int32} {e : Int32} (h : px_it (Mo_hangOn_L4 σ v1) n s = some e) (hX0 : pw l (px_R 2) y_Mo_hangOn c_Mo_hangOn 4 (some .int) 38 [(2, .inl e)] [] ids mG σ 0 0 Rt) : pw l (px_R 2) y_Mo_hangOn c_Mo_hangOn 4 (some .int) 4 [(0, .inr (some (0, 0, 0))), (1, .inl v1), (2, .inl s.1), (3, .inl s.2)] [] ids mG σ 0 0 Rt := by
  refine px_it_rule (f := Mo_hangOn_L4 σ v1) (C := fun s => pw l (px_R 2) y_Mo_hangOn c_Mo_hangOn 4 (some .int) 4 [(0, .inr (some (0, 0, 0))), (1, .inl v1), (2, .inl s.1), (3, .inl s.2)] [] ids mG σ 0 0 Rt) (X := fun e => (pw l (px_R 2) y_Mo_hangOn c_Mo_hangOn 4 (some .int) 38 [(2, .inl e)] [] ids mG σ 0 0 Rt)) ?_ ?_ n s e h hX0
  · intro s s1 hf hC
    exact Mo_hangOn_n4_l hf (fun s2 hs => by cases hs; exact hC) (fun e he => by cases he)
  · intro s e hf hX
    exact Mo_hangOn_n4_l hf (fun s2 hs => by cases hs) (fun e1 he => by cases he; exact hX)
def F_Mo_hangOn (σ : pxS) (v1 : Int32) : Option (Int32) :=
  px_b1 (px_it (Mo_hangOn_L4 σ v1) px_N (0, 0)) fun e5 =>
  some (e5)
set_option maxRecDepth 100000 in
theorem e_Mo_hangOn {l : Launch} {ids : List pxI} {Rt : Option pxV → List pxI → pxG → pxS → Prop} {σ : pxS} {v1 : Int32} {res : Int32} (h : F_Mo_hangOn σ v1 = some res) (hR : Rt (some (.inl res)) ids mG σ) : pw l (px_R 2) y_Mo_hangOn c_Mo_hangOn 4 (some .int) 0 [(0, .inr (some (0, 0, 0))), (1, .inl v1)] [] ids mG σ 0 0 Rt := by
  unfold F_Mo_hangOn at h
  refine pw_iconst (v := 0) (px_at td_Mo_hangOn 0 rfl) (by decide) ?_
  refine pw_istore_n (L' := [(2, .inl 0), (0, .inr (some (0, 0, 0))), (1, .inl v1)]) (px_at td_Mo_hangOn 1 rfl) rfl (by decide) rfl ?_
  refine pw_iconst (v := 0) (px_at td_Mo_hangOn 2 rfl) (by decide) ?_
  refine pw_istore_n (L' := [(3, .inl 0), (2, .inl 0), (0, .inr (some (0, 0, 0))), (1, .inl v1)]) (px_at td_Mo_hangOn 3 rfl) rfl (by decide) rfl ?_
  obtain ⟨e5, he5, h⟩ := px_b1_e h
  refine pw_L [(0, .inr (some (0, 0, 0))), (1, .inl v1), (2, .inl 0), (3, .inl 0)] [2, 3, 1, 0] rfl ?_
  refine Mo_hangOn_L4_l he5 ?_
  refine pw_iload_n 0 (px_at td_Mo_hangOn 26 rfl) rfl rfl ?_
  obtain rfl := Option.some.inj h
  exact pw_iret (px_at td_Mo_hangOn 27 rfl) rfl (Nat.le_refl 0) (Nat.le_refl 0) hR
theorem k_Mo_hangOn {l : Launch} {ids : List pxI} {σ : pxS} {v1 : Int32} {res : Int32} (h : F_Mo_hangOn σ v1 = some res) : pm l y_Mo_hangOn c_Mo_hangOn 4 (some .int) (px_R 2) [.inr (some (0, 0, 0)), .inl v1] ids mG σ (px_r (some (.inl res)) ids mG σ) :=
  pm_ofF (by decide +kernel) (Nat.le_of_ble_eq_true rfl) (e_Mo_hangOn h ⟨rfl, rfl, rfl, rfl⟩)
/-! Mo_copies_28_31 -/
def Mo_copies_28_31_n3 (σ : pxS) (v1 : Int32) (v3 : Int32) (v4 : Int32) : Option ((Int32 × pxS) ⊕ (pxS)) :=
  (if 308 ≤ v4 then some (.inr σ) else px_gd (v1 + v4) 308 (px_gd (v3 + v4) 6160 (px_l (px_up σ (1, 31, 0) (v3 + v4).toNatClampNeg (σ (1, 28, 0) (v1 + v4).toNatClampNeg)) fun σ3 =>
  some (.inl ((v4 + 1), σ3)))))
set_option maxRecDepth 100000 in
theorem Mo_copies_28_31_n3_l {l : Launch} {ids : List pxI} {Rt : Option pxV → List pxI → pxG → pxS → Prop} {σ : pxS} {v1 : Int32} {v3 : Int32} {v4 : Int32} {o : (Int32 × pxS) ⊕ (pxS)} (h : Mo_copies_28_31_n3 σ v1 v3 v4 = some o) (hC : ∀ s, o = .inl s → pw l (px_R 1) y_Mo_copies c_Mo_copies 5 none 3 [(0, .inr (some (1, 28, 0))), (1, .inl v1), (2, .inr (some (1, 31, 0))), (3, .inl v3), (4, .inl s.1)] [] ids mG s.2 0 0 Rt) (hX0 : ∀ e, o = .inr e → pw l (px_R 1) y_Mo_copies c_Mo_copies 5 none 29 [] [] ids mG e 0 0 Rt) : pw l (px_R 1) y_Mo_copies c_Mo_copies 5 none 3 [(0, .inr (some (1, 28, 0))), (1, .inl v1), (2, .inr (some (1, 31, 0))), (3, .inl v3), (4, .inl v4)] [] ids mG σ 0 0 Rt := by
  unfold Mo_copies_28_31_n3 at h
  refine pw_iload 4 (px_at td_Mo_copies 2 rfl) rfl ?_
  refine pw_sipush (v := 308) (px_at td_Mo_copies 3 rfl) (by decide) ?_
  rcases px_ite h with ⟨hc4, h⟩ | ⟨hc4, h⟩
  · refine pw_icmp_ge 29 (px_at td_Mo_copies 4 rfl) (by decide) (fun _ => ?_) (fun hn => absurd hc4 hn)
    refine pw_L [] [] rfl ?_
    exact hX0 σ (Option.some.inj h).symm
  · refine pw_icmp_ge 29 (px_at td_Mo_copies 4 rfl) (by decide) (fun hn => absurd hn hc4) (fun _ => ?_)
    refine pw_aload_n 2 (px_at td_Mo_copies 5 rfl) rfl rfl ?_
    refine pw_iload_n 3 (px_at td_Mo_copies 6 rfl) rfl rfl ?_
    refine pw_iload 4 (px_at td_Mo_copies 7 rfl) rfl ?_
    refine pw_iadd (px_at td_Mo_copies 8 rfl) ?_
    refine pw_aload_n 0 (px_at td_Mo_copies 9 rfl) rfl rfl ?_
    refine pw_iload_n 1 (px_at td_Mo_copies 10 rfl) rfl rfl ?_
    refine pw_iload 4 (px_at td_Mo_copies 11 rfl) rfl ?_
    refine pw_iadd (px_at td_Mo_copies 12 rfl) ?_
    obtain ⟨hi1, h⟩ := px_gd_e h
    refine pw_ial (px_at td_Mo_copies 13 rfl) rfl hi1 rfl ?_
    obtain ⟨hi2, h⟩ := px_gd_e h
    obtain ⟨σ3, hσ3, h⟩ := px_l_e h
    refine pw_ias (px_at td_Mo_copies 14 rfl) rfl hi2 rfl hσ3 ?_
    refine pw_iinc (q := 4) (v := (v4 + 1)) (L' := [(4, .inl (v4 + 1)), (0, .inr (some (1, 28, 0))), (1, .inl v1), (2, .inr (some (1, 31, 0))), (3, .inl v3)]) (px_at td_Mo_copies 15 rfl) rfl rfl (by decide) rfl ?_
    refine pw_goto 3 (px_at td_Mo_copies 16 rfl) (by decide) ?_
    refine pw_L [(0, .inr (some (1, 28, 0))), (1, .inl v1), (2, .inr (some (1, 31, 0))), (3, .inl v3), (4, .inl (v4 + 1))] [1, 2, 3, 4, 0] rfl ?_
    exact hC ((v4 + 1), σ3) (Option.some.inj h).symm
def Mo_copies_28_31_L3 (v1 : Int32) (v3 : Int32) : (Int32 × pxS) → Option ((Int32 × pxS) ⊕ (pxS)) := fun s => Mo_copies_28_31_n3 s.2 v1 v3 s.1
set_option maxRecDepth 100000 in
theorem Mo_copies_28_31_L3_l {l : Launch} {ids : List pxI} {Rt : Option pxV → List pxI → pxG → pxS → Prop} {v1 : Int32} {v3 : Int32} {n : Nat} {s : Int32 × pxS} {e : pxS} (h : px_it (Mo_copies_28_31_L3 v1 v3) n s = some e) (hX0 : pw l (px_R 1) y_Mo_copies c_Mo_copies 5 none 29 [] [] ids mG e 0 0 Rt) : pw l (px_R 1) y_Mo_copies c_Mo_copies 5 none 3 [(0, .inr (some (1, 28, 0))), (1, .inl v1), (2, .inr (some (1, 31, 0))), (3, .inl v3), (4, .inl s.1)] [] ids mG s.2 0 0 Rt := by
  refine px_it_rule (f := Mo_copies_28_31_L3 v1 v3) (C := fun s => pw l (px_R 1) y_Mo_copies c_Mo_copies 5 none 3 [(0, .inr (some (1, 28, 0))), (1, .inl v1), (2, .inr (some (1, 31, 0))), (3, .inl v3), (4, .inl s.1)] [] ids mG s.2 0 0 Rt) (X := fun e => (pw l (px_R 1) y_Mo_copies c_Mo_copies 5 none 29 [] [] ids mG e 0 0 Rt)) ?_ ?_ n s e h hX0
  · intro s s1 hf hC
    exact Mo_copies_28_31_n3_l hf (fun s2 hs => by cases hs; exact hC) (fun e he => by cases he)
  · intro s e hf hX
    exact Mo_copies_28_31_n3_l hf (fun s2 hs => by cases hs) (fun e1 he => by cases he; exact hX)
def F_Mo_copies_28_31 (σ : pxS) (v1 : Int32) (v3 : Int32) : Option (pxS) :=
  px_b1 (px_it (Mo_copies_28_31_L3 v1 v3) px_N (0, σ)) fun e5 =>
  some e5
set_option maxRecDepth 100000 in
theorem e_Mo_copies_28_31 {l : Launch} {ids : List pxI} {Rt : Option pxV → List pxI → pxG → pxS → Prop} {σ : pxS} {v1 : Int32} {v3 : Int32} {res : pxS} (h : F_Mo_copies_28_31 σ v1 v3 = some res) (hR : Rt none ids mG res) : pw l (px_R 1) y_Mo_copies c_Mo_copies 5 none 0 [(0, .inr (some (1, 28, 0))), (1, .inl v1), (2, .inr (some (1, 31, 0))), (3, .inl v3)] [] ids mG σ 0 0 Rt := by
  unfold F_Mo_copies_28_31 at h
  refine pw_iconst (v := 0) (px_at td_Mo_copies 0 rfl) (by decide) ?_
  refine pw_istore (L' := [(4, .inl 0), (0, .inr (some (1, 28, 0))), (1, .inl v1), (2, .inr (some (1, 31, 0))), (3, .inl v3)]) (px_at td_Mo_copies 1 rfl) (by decide) rfl ?_
  obtain ⟨e5, he5, h⟩ := px_b1_e h
  refine pw_L [(0, .inr (some (1, 28, 0))), (1, .inl v1), (2, .inr (some (1, 31, 0))), (3, .inl v3), (4, .inl 0)] [1, 2, 3, 4, 0] rfl ?_
  refine Mo_copies_28_31_L3_l he5 ?_
  obtain rfl := Option.some.inj h
  exact pw_vret (px_at td_Mo_copies 17 rfl) rfl (Nat.le_refl 0) (Nat.le_refl 0) hR
theorem k_Mo_copies_28_31 {l : Launch} {ids : List pxI} {σ : pxS} {v1 : Int32} {v3 : Int32} {res : pxS} (h : F_Mo_copies_28_31 σ v1 v3 = some res) : pm l y_Mo_copies c_Mo_copies 5 none (px_R 1) [.inr (some (1, 28, 0)), .inl v1, .inr (some (1, 31, 0)), .inl v3] ids mG σ (px_r none ids mG res) :=
  pm_ofF (by decide +kernel) (Nat.le_of_ble_eq_true rfl) (e_Mo_copies_28_31 h ⟨rfl, rfl, rfl, rfl⟩)
/-! Mo_remembers -/
def Mo_remembers_n50 (σ : pxS)  : Option (pxS) :=
  px_b1 (F_Mo_copies_28_31 σ 0 (308 * (σ (0, 0, 0) 32))) fun σ1 =>
  px_l (px_up σ1 (0, 0, 0) 32 ((σ1 (0, 0, 0) 32) + 1)) fun σ2 =>
  some σ2
set_option maxRecDepth 100000 in
theorem Mo_remembers_n50_l {l : Launch} {ids : List pxI} {Rt : Option pxV → List pxI → pxG → pxS → Prop} {σ : pxS}  {res : pxS} (h : Mo_remembers_n50 σ  = some res) (hR : Rt none ids mG res) : pw l (px_R 2) y_Mo_remembers c_Mo_remembers 2 none 50 [(0, .inr (some (0, 0, 0)))] [] ids mG σ 0 0 Rt := by
  unfold Mo_remembers_n50 at h
  refine pw_aload_n 0 (px_at td_Mo_remembers 27 rfl) rfl rfl ?_
  refine pw_getf (v := .inr (some (1, 28, 0))) (px_at td_Mo_remembers 28 rfl) lf_Mo_63 rfl rfl rfl ?_
  refine pw_iconst (v := 0) (px_at td_Mo_remembers 29 rfl) (by decide) ?_
  refine pw_aload_n 0 (px_at td_Mo_remembers 30 rfl) rfl rfl ?_
  refine pw_getf (v := .inr (some (1, 31, 0))) (px_at td_Mo_remembers 31 rfl) lf_Mo_72 rfl rfl rfl ?_
  refine pw_sipush (v := 308) (px_at td_Mo_remembers 32 rfl) (by decide) ?_
  refine pw_aload_n 0 (px_at td_Mo_remembers 33 rfl) rfl rfl ?_
  refine pw_getf (v := .inl (σ (0, 0, 0) 32)) (px_at td_Mo_remembers 34 rfl) lf_Mo_216 rfl rfl rfl ?_
  refine pw_imul (px_at td_Mo_remembers 35 rfl) ?_
  obtain ⟨σ1, hk1, h⟩ := px_b1_e h
  refine pw_cS0 [.inr (some (1, 28, 0)), .inl 0, .inr (some (1, 31, 0)), .inl (308 * (σ (0, 0, 0) 32))] [] (px_at td_Mo_remembers 36 rfl) lS_Mo_226 rfl rfl (Nat.le_of_ble_eq_true rfl) (by decide) (k_Mo_copies_28_31 hk1) ?_
  refine pw_aload_n 0 (px_at td_Mo_remembers 37 rfl) rfl rfl ?_
  refine pw_dup (px_at td_Mo_remembers 38 rfl) ?_
  refine pw_getf (v := .inl (σ1 (0, 0, 0) 32)) (px_at td_Mo_remembers 39 rfl) lf_Mo_216 rfl rfl rfl ?_
  refine pw_iconst (v := 1) (px_at td_Mo_remembers 40 rfl) (by decide) ?_
  refine pw_iadd (px_at td_Mo_remembers 41 rfl) ?_
  obtain ⟨σ2, hσ2, h⟩ := px_l_e h
  refine pw_puti (px_at td_Mo_remembers 42 rfl) lw_Mo_216 rfl rfl (pw_s hσ2 ?_)
  obtain rfl := Option.some.inj h
  exact pw_vret (px_at td_Mo_remembers 43 rfl) rfl (Nat.le_refl 0) (Nat.le_refl 0) hR
def Mo_remembers_n11 (σ : pxS) (v1 : Int32) : Option ((Int32 × pxS) ⊕ (pxS)) :=
  (if 5852 ≤ v1 then some (.inr σ) else px_gd (308 + v1) 6160 (px_gd v1 6160 (px_l (px_up σ (1, 31, 0) v1.toNatClampNeg (σ (1, 31, 0) (308 + v1).toNatClampNeg)) fun σ5 =>
  some (.inl ((v1 + 1), σ5)))))
set_option maxRecDepth 100000 in
theorem Mo_remembers_n11_l {l : Launch} {ids : List pxI} {Rt : Option pxV → List pxI → pxG → pxS → Prop} {σ : pxS} {v1 : Int32} {o : (Int32 × pxS) ⊕ (pxS)} (h : Mo_remembers_n11 σ v1 = some o) (hC : ∀ s, o = .inl s → pw l (px_R 2) y_Mo_remembers c_Mo_remembers 2 none 11 [(0, .inr (some (0, 0, 0))), (1, .inl s.1)] [] ids mG s.2 0 0 Rt) (hX0 : ∀ e, o = .inr e → pw l (px_R 2) y_Mo_remembers c_Mo_remembers 2 none 40 [(0, .inr (some (0, 0, 0)))] [] ids mG e 0 0 Rt) : pw l (px_R 2) y_Mo_remembers c_Mo_remembers 2 none 11 [(0, .inr (some (0, 0, 0))), (1, .inl v1)] [] ids mG σ 0 0 Rt := by
  unfold Mo_remembers_n11 at h
  refine pw_iload_n 1 (px_at td_Mo_remembers 6 rfl) rfl rfl ?_
  refine pw_sipush (v := 5852) (px_at td_Mo_remembers 7 rfl) (by decide) ?_
  rcases px_ite h with ⟨hc6, h⟩ | ⟨hc6, h⟩
  · refine pw_icmp_ge 40 (px_at td_Mo_remembers 8 rfl) (by decide) (fun _ => ?_) (fun hn => absurd hc6 hn)
    refine pw_L [(0, .inr (some (0, 0, 0)))] [0] rfl ?_
    exact hX0 σ (Option.some.inj h).symm
  · refine pw_icmp_ge 40 (px_at td_Mo_remembers 8 rfl) (by decide) (fun hn => absurd hn hc6) (fun _ => ?_)
    refine pw_aload_n 0 (px_at td_Mo_remembers 9 rfl) rfl rfl ?_
    refine pw_getf (v := .inr (some (1, 31, 0))) (px_at td_Mo_remembers 10 rfl) lf_Mo_72 rfl rfl rfl ?_
    refine pw_iload_n 1 (px_at td_Mo_remembers 11 rfl) rfl rfl ?_
    refine pw_aload_n 0 (px_at td_Mo_remembers 12 rfl) rfl rfl ?_
    refine pw_getf (v := .inr (some (1, 31, 0))) (px_at td_Mo_remembers 13 rfl) lf_Mo_72 rfl rfl rfl ?_
    refine pw_sipush (v := 308) (px_at td_Mo_remembers 14 rfl) (by decide) ?_
    refine pw_iload_n 1 (px_at td_Mo_remembers 15 rfl) rfl rfl ?_
    refine pw_iadd (px_at td_Mo_remembers 16 rfl) ?_
    obtain ⟨hi3, h⟩ := px_gd_e h
    refine pw_ial (px_at td_Mo_remembers 17 rfl) rfl hi3 rfl ?_
    obtain ⟨hi4, h⟩ := px_gd_e h
    obtain ⟨σ5, hσ5, h⟩ := px_l_e h
    refine pw_ias (px_at td_Mo_remembers 18 rfl) rfl hi4 rfl hσ5 ?_
    refine pw_iinc (q := 1) (v := (v1 + 1)) (L' := [(1, .inl (v1 + 1)), (0, .inr (some (0, 0, 0)))]) (px_at td_Mo_remembers 19 rfl) rfl rfl (by decide) rfl ?_
    refine pw_goto 11 (px_at td_Mo_remembers 20 rfl) (by decide) ?_
    refine pw_L [(0, .inr (some (0, 0, 0))), (1, .inl (v1 + 1))] [1, 0] rfl ?_
    exact hC ((v1 + 1), σ5) (Option.some.inj h).symm
def Mo_remembers_L11  : (Int32 × pxS) → Option ((Int32 × pxS) ⊕ (pxS)) := fun s => Mo_remembers_n11 s.2 s.1
set_option maxRecDepth 100000 in
theorem Mo_remembers_L11_l {l : Launch} {ids : List pxI} {Rt : Option pxV → List pxI → pxG → pxS → Prop}  {n : Nat} {s : Int32 × pxS} {e : pxS} (h : px_it (Mo_remembers_L11 ) n s = some e) (hX0 : pw l (px_R 2) y_Mo_remembers c_Mo_remembers 2 none 40 [(0, .inr (some (0, 0, 0)))] [] ids mG e 0 0 Rt) : pw l (px_R 2) y_Mo_remembers c_Mo_remembers 2 none 11 [(0, .inr (some (0, 0, 0))), (1, .inl s.1)] [] ids mG s.2 0 0 Rt := by
  refine px_it_rule (f := Mo_remembers_L11 ) (C := fun s => pw l (px_R 2) y_Mo_remembers c_Mo_remembers 2 none 11 [(0, .inr (some (0, 0, 0))), (1, .inl s.1)] [] ids mG s.2 0 0 Rt) (X := fun e => (pw l (px_R 2) y_Mo_remembers c_Mo_remembers 2 none 40 [(0, .inr (some (0, 0, 0)))] [] ids mG e 0 0 Rt)) ?_ ?_ n s e h hX0
  · intro s s1 hf hC
    exact Mo_remembers_n11_l hf (fun s2 hs => by cases hs; exact hC) (fun e he => by cases he)
  · intro s e hf hX
    exact Mo_remembers_n11_l hf (fun s2 hs => by cases hs) (fun e1 he => by cases he; exact hX)
def F_Mo_remembers (σ : pxS)  : Option (pxS) :=
  (if (σ (0, 0, 0) 32) = 20 then px_b1 (px_it (Mo_remembers_L11 ) px_N (0, σ)) fun e7 =>
  px_l (px_up e7 (0, 0, 0) 32 ((e7 (0, 0, 0) 32) - 1)) fun σ8 =>
  Mo_remembers_n50 σ8  else Mo_remembers_n50 σ )
set_option maxRecDepth 100000 in
theorem e_Mo_remembers {l : Launch} {ids : List pxI} {Rt : Option pxV → List pxI → pxG → pxS → Prop} {σ : pxS}  {res : pxS} (h : F_Mo_remembers σ  = some res) (hR : Rt none ids mG res) : pw l (px_R 2) y_Mo_remembers c_Mo_remembers 2 none 0 [(0, .inr (some (0, 0, 0)))] [] ids mG σ 0 0 Rt := by
  unfold F_Mo_remembers at h
  refine pw_aload_n 0 (px_at td_Mo_remembers 0 rfl) rfl rfl ?_
  refine pw_getf (v := .inl (σ (0, 0, 0) 32)) (px_at td_Mo_remembers 1 rfl) lf_Mo_216 rfl rfl rfl ?_
  refine pw_bipush (v := 20) (px_at td_Mo_remembers 2 rfl) (by decide) ?_
  rcases px_ite h with ⟨hc9, h⟩ | ⟨hc9, h⟩
  · refine pw_icmp_ne 50 (px_at td_Mo_remembers 3 rfl) (by decide) (fun hn => absurd hc9 hn) (fun _ => ?_)
    refine pw_iconst (v := 0) (px_at td_Mo_remembers 4 rfl) (by decide) ?_
    refine pw_istore_n (L' := [(1, .inl 0), (0, .inr (some (0, 0, 0)))]) (px_at td_Mo_remembers 5 rfl) rfl (by decide) rfl ?_
    obtain ⟨e7, he7, h⟩ := px_b1_e h
    refine pw_L [(0, .inr (some (0, 0, 0))), (1, .inl 0)] [1, 0] rfl ?_
    refine Mo_remembers_L11_l he7 ?_
    refine pw_aload_n 0 (px_at td_Mo_remembers 21 rfl) rfl rfl ?_
    refine pw_dup (px_at td_Mo_remembers 22 rfl) ?_
    refine pw_getf (v := .inl (e7 (0, 0, 0) 32)) (px_at td_Mo_remembers 23 rfl) lf_Mo_216 rfl rfl rfl ?_
    refine pw_iconst (v := 1) (px_at td_Mo_remembers 24 rfl) (by decide) ?_
    refine pw_isub (px_at td_Mo_remembers 25 rfl) ?_
    obtain ⟨σ8, hσ8, h⟩ := px_l_e h
    refine pw_puti (px_at td_Mo_remembers 26 rfl) lw_Mo_216 rfl rfl (pw_s hσ8 ?_)
    exact Mo_remembers_n50_l h hR
  · refine pw_icmp_ne 50 (px_at td_Mo_remembers 3 rfl) (by decide) (fun _ => ?_) (fun hn => absurd hn hc9)
    exact Mo_remembers_n50_l h hR
theorem k_Mo_remembers {l : Launch} {ids : List pxI} {σ : pxS}  {res : pxS} (h : F_Mo_remembers σ  = some res) : pm l y_Mo_remembers c_Mo_remembers 2 none (px_R 2) [.inr (some (0, 0, 0))] ids mG σ (px_r none ids mG res) :=
  pm_ofF (by decide +kernel) (Nat.le_of_ble_eq_true rfl) (e_Mo_remembers h ⟨rfl, rfl, rfl, rfl⟩)
/-! Mo_copies_31_28 -/
def Mo_copies_31_28_n3 (σ : pxS) (v1 : Int32) (v3 : Int32) (v4 : Int32) : Option ((Int32 × pxS) ⊕ (pxS)) :=
  (if 308 ≤ v4 then some (.inr σ) else px_gd (v1 + v4) 6160 (px_gd (v3 + v4) 308 (px_l (px_up σ (1, 28, 0) (v3 + v4).toNatClampNeg (σ (1, 31, 0) (v1 + v4).toNatClampNeg)) fun σ3 =>
  some (.inl ((v4 + 1), σ3)))))
set_option maxRecDepth 100000 in
theorem Mo_copies_31_28_n3_l {l : Launch} {ids : List pxI} {Rt : Option pxV → List pxI → pxG → pxS → Prop} {σ : pxS} {v1 : Int32} {v3 : Int32} {v4 : Int32} {o : (Int32 × pxS) ⊕ (pxS)} (h : Mo_copies_31_28_n3 σ v1 v3 v4 = some o) (hC : ∀ s, o = .inl s → pw l (px_R 1) y_Mo_copies c_Mo_copies 5 none 3 [(0, .inr (some (1, 31, 0))), (1, .inl v1), (2, .inr (some (1, 28, 0))), (3, .inl v3), (4, .inl s.1)] [] ids mG s.2 0 0 Rt) (hX0 : ∀ e, o = .inr e → pw l (px_R 1) y_Mo_copies c_Mo_copies 5 none 29 [] [] ids mG e 0 0 Rt) : pw l (px_R 1) y_Mo_copies c_Mo_copies 5 none 3 [(0, .inr (some (1, 31, 0))), (1, .inl v1), (2, .inr (some (1, 28, 0))), (3, .inl v3), (4, .inl v4)] [] ids mG σ 0 0 Rt := by
  unfold Mo_copies_31_28_n3 at h
  refine pw_iload 4 (px_at td_Mo_copies 2 rfl) rfl ?_
  refine pw_sipush (v := 308) (px_at td_Mo_copies 3 rfl) (by decide) ?_
  rcases px_ite h with ⟨hc4, h⟩ | ⟨hc4, h⟩
  · refine pw_icmp_ge 29 (px_at td_Mo_copies 4 rfl) (by decide) (fun _ => ?_) (fun hn => absurd hc4 hn)
    refine pw_L [] [] rfl ?_
    exact hX0 σ (Option.some.inj h).symm
  · refine pw_icmp_ge 29 (px_at td_Mo_copies 4 rfl) (by decide) (fun hn => absurd hn hc4) (fun _ => ?_)
    refine pw_aload_n 2 (px_at td_Mo_copies 5 rfl) rfl rfl ?_
    refine pw_iload_n 3 (px_at td_Mo_copies 6 rfl) rfl rfl ?_
    refine pw_iload 4 (px_at td_Mo_copies 7 rfl) rfl ?_
    refine pw_iadd (px_at td_Mo_copies 8 rfl) ?_
    refine pw_aload_n 0 (px_at td_Mo_copies 9 rfl) rfl rfl ?_
    refine pw_iload_n 1 (px_at td_Mo_copies 10 rfl) rfl rfl ?_
    refine pw_iload 4 (px_at td_Mo_copies 11 rfl) rfl ?_
    refine pw_iadd (px_at td_Mo_copies 12 rfl) ?_
    obtain ⟨hi1, h⟩ := px_gd_e h
    refine pw_ial (px_at td_Mo_copies 13 rfl) rfl hi1 rfl ?_
    obtain ⟨hi2, h⟩ := px_gd_e h
    obtain ⟨σ3, hσ3, h⟩ := px_l_e h
    refine pw_ias (px_at td_Mo_copies 14 rfl) rfl hi2 rfl hσ3 ?_
    refine pw_iinc (q := 4) (v := (v4 + 1)) (L' := [(4, .inl (v4 + 1)), (0, .inr (some (1, 31, 0))), (1, .inl v1), (2, .inr (some (1, 28, 0))), (3, .inl v3)]) (px_at td_Mo_copies 15 rfl) rfl rfl (by decide) rfl ?_
    refine pw_goto 3 (px_at td_Mo_copies 16 rfl) (by decide) ?_
    refine pw_L [(0, .inr (some (1, 31, 0))), (1, .inl v1), (2, .inr (some (1, 28, 0))), (3, .inl v3), (4, .inl (v4 + 1))] [1, 2, 3, 4, 0] rfl ?_
    exact hC ((v4 + 1), σ3) (Option.some.inj h).symm
def Mo_copies_31_28_L3 (v1 : Int32) (v3 : Int32) : (Int32 × pxS) → Option ((Int32 × pxS) ⊕ (pxS)) := fun s => Mo_copies_31_28_n3 s.2 v1 v3 s.1
set_option maxRecDepth 100000 in
theorem Mo_copies_31_28_L3_l {l : Launch} {ids : List pxI} {Rt : Option pxV → List pxI → pxG → pxS → Prop} {v1 : Int32} {v3 : Int32} {n : Nat} {s : Int32 × pxS} {e : pxS} (h : px_it (Mo_copies_31_28_L3 v1 v3) n s = some e) (hX0 : pw l (px_R 1) y_Mo_copies c_Mo_copies 5 none 29 [] [] ids mG e 0 0 Rt) : pw l (px_R 1) y_Mo_copies c_Mo_copies 5 none 3 [(0, .inr (some (1, 31, 0))), (1, .inl v1), (2, .inr (some (1, 28, 0))), (3, .inl v3), (4, .inl s.1)] [] ids mG s.2 0 0 Rt := by
  refine px_it_rule (f := Mo_copies_31_28_L3 v1 v3) (C := fun s => pw l (px_R 1) y_Mo_copies c_Mo_copies 5 none 3 [(0, .inr (some (1, 31, 0))), (1, .inl v1), (2, .inr (some (1, 28, 0))), (3, .inl v3), (4, .inl s.1)] [] ids mG s.2 0 0 Rt) (X := fun e => (pw l (px_R 1) y_Mo_copies c_Mo_copies 5 none 29 [] [] ids mG e 0 0 Rt)) ?_ ?_ n s e h hX0
  · intro s s1 hf hC
    exact Mo_copies_31_28_n3_l hf (fun s2 hs => by cases hs; exact hC) (fun e he => by cases he)
  · intro s e hf hX
    exact Mo_copies_31_28_n3_l hf (fun s2 hs => by cases hs) (fun e1 he => by cases he; exact hX)
def F_Mo_copies_31_28 (σ : pxS) (v1 : Int32) (v3 : Int32) : Option (pxS) :=
  px_b1 (px_it (Mo_copies_31_28_L3 v1 v3) px_N (0, σ)) fun e5 =>
  some e5
set_option maxRecDepth 100000 in
theorem e_Mo_copies_31_28 {l : Launch} {ids : List pxI} {Rt : Option pxV → List pxI → pxG → pxS → Prop} {σ : pxS} {v1 : Int32} {v3 : Int32} {res : pxS} (h : F_Mo_copies_31_28 σ v1 v3 = some res) (hR : Rt none ids mG res) : pw l (px_R 1) y_Mo_copies c_Mo_copies 5 none 0 [(0, .inr (some (1, 31, 0))), (1, .inl v1), (2, .inr (some (1, 28, 0))), (3, .inl v3)] [] ids mG σ 0 0 Rt := by
  unfold F_Mo_copies_31_28 at h
  refine pw_iconst (v := 0) (px_at td_Mo_copies 0 rfl) (by decide) ?_
  refine pw_istore (L' := [(4, .inl 0), (0, .inr (some (1, 31, 0))), (1, .inl v1), (2, .inr (some (1, 28, 0))), (3, .inl v3)]) (px_at td_Mo_copies 1 rfl) (by decide) rfl ?_
  obtain ⟨e5, he5, h⟩ := px_b1_e h
  refine pw_L [(0, .inr (some (1, 31, 0))), (1, .inl v1), (2, .inr (some (1, 28, 0))), (3, .inl v3), (4, .inl 0)] [1, 2, 3, 4, 0] rfl ?_
  refine Mo_copies_31_28_L3_l he5 ?_
  obtain rfl := Option.some.inj h
  exact pw_vret (px_at td_Mo_copies 17 rfl) rfl (Nat.le_refl 0) (Nat.le_refl 0) hR
theorem k_Mo_copies_31_28 {l : Launch} {ids : List pxI} {σ : pxS} {v1 : Int32} {v3 : Int32} {res : pxS} (h : F_Mo_copies_31_28 σ v1 v3 = some res) : pm l y_Mo_copies c_Mo_copies 5 none (px_R 1) [.inr (some (1, 31, 0)), .inl v1, .inr (some (1, 28, 0)), .inl v3] ids mG σ (px_r none ids mG res) :=
  pm_ofF (by decide +kernel) (Nat.le_of_ble_eq_true rfl) (e_Mo_copies_31_28 h ⟨rfl, rfl, rfl, rfl⟩)
/-! Mo_undo -/
def F_Mo_undo (σ : pxS)  : Option (Int32 × pxS) :=
  px_l (px_up σ (0, 0, 0) 0 0) fun σ1 =>
  (if (σ1 (0, 0, 0) 32) = 0 then some ((-1), σ1) else px_l (px_up σ1 (0, 0, 0) 32 ((σ1 (0, 0, 0) 32) - 1)) fun σ2 =>
  px_b1 (F_Mo_copies_31_28 σ2 (308 * (σ2 (0, 0, 0) 32)) 0) fun σ3 =>
  some ((σ3 (0, 0, 0) 32), σ3))
set_option maxRecDepth 100000 in
theorem e_Mo_undo {l : Launch} {ids : List pxI} {Rt : Option pxV → List pxI → pxG → pxS → Prop} {σ : pxS}  {res : Int32 × pxS} (h : F_Mo_undo σ  = some res) (hR : Rt (some (.inl res.1)) ids mG res.2) : pw l (px_R 2) y_Mo_undo c_Mo_undo 1 (some .int) 0 [(0, .inr (some (0, 0, 0)))] [] ids mG σ 0 0 Rt := by
  unfold F_Mo_undo at h
  refine pw_aload_n 0 (px_at td_Mo_undo 0 rfl) rfl rfl ?_
  refine pw_iconst (v := 0) (px_at td_Mo_undo 1 rfl) (by decide) ?_
  obtain ⟨σ1, hσ1, h⟩ := px_l_e h
  refine pw_puti (px_at td_Mo_undo 2 rfl) lw_Mo_99 rfl rfl (pw_s hσ1 ?_)
  refine pw_aload_n 0 (px_at td_Mo_undo 3 rfl) rfl rfl ?_
  refine pw_getf (v := .inl (σ1 (0, 0, 0) 32)) (px_at td_Mo_undo 4 rfl) lf_Mo_216 rfl rfl rfl ?_
  rcases px_ite h with ⟨hc4, h⟩ | ⟨hc4, h⟩
  · refine pw_if_ne 14 (px_at td_Mo_undo 5 rfl) (by decide) (fun hn => absurd hc4 hn) (fun _ => ?_)
    refine pw_iconst (v := (-1)) (px_at td_Mo_undo 6 rfl) (by decide) ?_
    obtain rfl := Option.some.inj h
    exact pw_iret (px_at td_Mo_undo 7 rfl) rfl (Nat.le_refl 0) (Nat.le_refl 0) hR
  · refine pw_if_ne 14 (px_at td_Mo_undo 5 rfl) (by decide) (fun _ => ?_) (fun hn => absurd hn hc4)
    refine pw_aload_n 0 (px_at td_Mo_undo 8 rfl) rfl rfl ?_
    refine pw_dup (px_at td_Mo_undo 9 rfl) ?_
    refine pw_getf (v := .inl (σ1 (0, 0, 0) 32)) (px_at td_Mo_undo 10 rfl) lf_Mo_216 rfl rfl rfl ?_
    refine pw_iconst (v := 1) (px_at td_Mo_undo 11 rfl) (by decide) ?_
    refine pw_isub (px_at td_Mo_undo 12 rfl) ?_
    obtain ⟨σ2, hσ2, h⟩ := px_l_e h
    refine pw_puti (px_at td_Mo_undo 13 rfl) lw_Mo_216 rfl rfl (pw_s hσ2 ?_)
    refine pw_aload_n 0 (px_at td_Mo_undo 14 rfl) rfl rfl ?_
    refine pw_getf (v := .inr (some (1, 31, 0))) (px_at td_Mo_undo 15 rfl) lf_Mo_72 rfl rfl rfl ?_
    refine pw_sipush (v := 308) (px_at td_Mo_undo 16 rfl) (by decide) ?_
    refine pw_aload_n 0 (px_at td_Mo_undo 17 rfl) rfl rfl ?_
    refine pw_getf (v := .inl (σ2 (0, 0, 0) 32)) (px_at td_Mo_undo 18 rfl) lf_Mo_216 rfl rfl rfl ?_
    refine pw_imul (px_at td_Mo_undo 19 rfl) ?_
    refine pw_aload_n 0 (px_at td_Mo_undo 20 rfl) rfl rfl ?_
    refine pw_getf (v := .inr (some (1, 28, 0))) (px_at td_Mo_undo 21 rfl) lf_Mo_63 rfl rfl rfl ?_
    refine pw_iconst (v := 0) (px_at td_Mo_undo 22 rfl) (by decide) ?_
    obtain ⟨σ3, hk3, h⟩ := px_b1_e h
    refine pw_cS0 [.inr (some (1, 31, 0)), .inl (308 * (σ2 (0, 0, 0) 32)), .inr (some (1, 28, 0)), .inl 0] [] (px_at td_Mo_undo 23 rfl) lS_Mo_226 rfl rfl (Nat.le_of_ble_eq_true rfl) (by decide) (k_Mo_copies_31_28 hk3) ?_
    refine pw_aload_n 0 (px_at td_Mo_undo 24 rfl) rfl rfl ?_
    refine pw_getf (v := .inl (σ3 (0, 0, 0) 32)) (px_at td_Mo_undo 25 rfl) lf_Mo_216 rfl rfl rfl ?_
    obtain rfl := Option.some.inj h
    exact pw_iret (px_at td_Mo_undo 26 rfl) rfl (Nat.le_refl 0) (Nat.le_refl 0) hR
theorem k_Mo_undo {l : Launch} {ids : List pxI} {σ : pxS}  {res : Int32 × pxS} (h : F_Mo_undo σ  = some res) : pm l y_Mo_undo c_Mo_undo 1 (some .int) (px_R 2) [.inr (some (0, 0, 0))] ids mG σ (px_r (some (.inl res.1)) ids mG res.2) :=
  pm_ofF (by decide +kernel) (Nat.le_of_ble_eq_true rfl) (e_Mo_undo h ⟨rfl, rfl, rfl, rfl⟩)
/-! Mo_copies_28_30 -/
def Mo_copies_28_30_n3 (σ : pxS) (v1 : Int32) (v3 : Int32) (v4 : Int32) : Option ((Int32 × pxS) ⊕ (pxS)) :=
  (if 308 ≤ v4 then some (.inr σ) else px_gd (v1 + v4) 308 (px_gd (v3 + v4) 308 (px_l (px_up σ (1, 30, 0) (v3 + v4).toNatClampNeg (σ (1, 28, 0) (v1 + v4).toNatClampNeg)) fun σ3 =>
  some (.inl ((v4 + 1), σ3)))))
set_option maxRecDepth 100000 in
theorem Mo_copies_28_30_n3_l {l : Launch} {ids : List pxI} {Rt : Option pxV → List pxI → pxG → pxS → Prop} {σ : pxS} {v1 : Int32} {v3 : Int32} {v4 : Int32} {o : (Int32 × pxS) ⊕ (pxS)} (h : Mo_copies_28_30_n3 σ v1 v3 v4 = some o) (hC : ∀ s, o = .inl s → pw l (px_R 1) y_Mo_copies c_Mo_copies 5 none 3 [(0, .inr (some (1, 28, 0))), (1, .inl v1), (2, .inr (some (1, 30, 0))), (3, .inl v3), (4, .inl s.1)] [] ids mG s.2 0 0 Rt) (hX0 : ∀ e, o = .inr e → pw l (px_R 1) y_Mo_copies c_Mo_copies 5 none 29 [] [] ids mG e 0 0 Rt) : pw l (px_R 1) y_Mo_copies c_Mo_copies 5 none 3 [(0, .inr (some (1, 28, 0))), (1, .inl v1), (2, .inr (some (1, 30, 0))), (3, .inl v3), (4, .inl v4)] [] ids mG σ 0 0 Rt := by
  unfold Mo_copies_28_30_n3 at h
  refine pw_iload 4 (px_at td_Mo_copies 2 rfl) rfl ?_
  refine pw_sipush (v := 308) (px_at td_Mo_copies 3 rfl) (by decide) ?_
  rcases px_ite h with ⟨hc4, h⟩ | ⟨hc4, h⟩
  · refine pw_icmp_ge 29 (px_at td_Mo_copies 4 rfl) (by decide) (fun _ => ?_) (fun hn => absurd hc4 hn)
    refine pw_L [] [] rfl ?_
    exact hX0 σ (Option.some.inj h).symm
  · refine pw_icmp_ge 29 (px_at td_Mo_copies 4 rfl) (by decide) (fun hn => absurd hn hc4) (fun _ => ?_)
    refine pw_aload_n 2 (px_at td_Mo_copies 5 rfl) rfl rfl ?_
    refine pw_iload_n 3 (px_at td_Mo_copies 6 rfl) rfl rfl ?_
    refine pw_iload 4 (px_at td_Mo_copies 7 rfl) rfl ?_
    refine pw_iadd (px_at td_Mo_copies 8 rfl) ?_
    refine pw_aload_n 0 (px_at td_Mo_copies 9 rfl) rfl rfl ?_
    refine pw_iload_n 1 (px_at td_Mo_copies 10 rfl) rfl rfl ?_
    refine pw_iload 4 (px_at td_Mo_copies 11 rfl) rfl ?_
    refine pw_iadd (px_at td_Mo_copies 12 rfl) ?_
    obtain ⟨hi1, h⟩ := px_gd_e h
    refine pw_ial (px_at td_Mo_copies 13 rfl) rfl hi1 rfl ?_
    obtain ⟨hi2, h⟩ := px_gd_e h
    obtain ⟨σ3, hσ3, h⟩ := px_l_e h
    refine pw_ias (px_at td_Mo_copies 14 rfl) rfl hi2 rfl hσ3 ?_
    refine pw_iinc (q := 4) (v := (v4 + 1)) (L' := [(4, .inl (v4 + 1)), (0, .inr (some (1, 28, 0))), (1, .inl v1), (2, .inr (some (1, 30, 0))), (3, .inl v3)]) (px_at td_Mo_copies 15 rfl) rfl rfl (by decide) rfl ?_
    refine pw_goto 3 (px_at td_Mo_copies 16 rfl) (by decide) ?_
    refine pw_L [(0, .inr (some (1, 28, 0))), (1, .inl v1), (2, .inr (some (1, 30, 0))), (3, .inl v3), (4, .inl (v4 + 1))] [1, 2, 3, 4, 0] rfl ?_
    exact hC ((v4 + 1), σ3) (Option.some.inj h).symm
def Mo_copies_28_30_L3 (v1 : Int32) (v3 : Int32) : (Int32 × pxS) → Option ((Int32 × pxS) ⊕ (pxS)) := fun s => Mo_copies_28_30_n3 s.2 v1 v3 s.1
set_option maxRecDepth 100000 in
theorem Mo_copies_28_30_L3_l {l : Launch} {ids : List pxI} {Rt : Option pxV → List pxI → pxG → pxS → Prop} {v1 : Int32} {v3 : Int32} {n : Nat} {s : Int32 × pxS} {e : pxS} (h : px_it (Mo_copies_28_30_L3 v1 v3) n s = some e) (hX0 : pw l (px_R 1) y_Mo_copies c_Mo_copies 5 none 29 [] [] ids mG e 0 0 Rt) : pw l (px_R 1) y_Mo_copies c_Mo_copies 5 none 3 [(0, .inr (some (1, 28, 0))), (1, .inl v1), (2, .inr (some (1, 30, 0))), (3, .inl v3), (4, .inl s.1)] [] ids mG s.2 0 0 Rt := by
  refine px_it_rule (f := Mo_copies_28_30_L3 v1 v3) (C := fun s => pw l (px_R 1) y_Mo_copies c_Mo_copies 5 none 3 [(0, .inr (some (1, 28, 0))), (1, .inl v1), (2, .inr (some (1, 30, 0))), (3, .inl v3), (4, .inl s.1)] [] ids mG s.2 0 0 Rt) (X := fun e => (pw l (px_R 1) y_Mo_copies c_Mo_copies 5 none 29 [] [] ids mG e 0 0 Rt)) ?_ ?_ n s e h hX0
  · intro s s1 hf hC
    exact Mo_copies_28_30_n3_l hf (fun s2 hs => by cases hs; exact hC) (fun e he => by cases he)
  · intro s e hf hX
    exact Mo_copies_28_30_n3_l hf (fun s2 hs => by cases hs) (fun e1 he => by cases he; exact hX)
def F_Mo_copies_28_30 (σ : pxS) (v1 : Int32) (v3 : Int32) : Option (pxS) :=
  px_b1 (px_it (Mo_copies_28_30_L3 v1 v3) px_N (0, σ)) fun e5 =>
  some e5
set_option maxRecDepth 100000 in
theorem e_Mo_copies_28_30 {l : Launch} {ids : List pxI} {Rt : Option pxV → List pxI → pxG → pxS → Prop} {σ : pxS} {v1 : Int32} {v3 : Int32} {res : pxS} (h : F_Mo_copies_28_30 σ v1 v3 = some res) (hR : Rt none ids mG res) : pw l (px_R 1) y_Mo_copies c_Mo_copies 5 none 0 [(0, .inr (some (1, 28, 0))), (1, .inl v1), (2, .inr (some (1, 30, 0))), (3, .inl v3)] [] ids mG σ 0 0 Rt := by
  unfold F_Mo_copies_28_30 at h
  refine pw_iconst (v := 0) (px_at td_Mo_copies 0 rfl) (by decide) ?_
  refine pw_istore (L' := [(4, .inl 0), (0, .inr (some (1, 28, 0))), (1, .inl v1), (2, .inr (some (1, 30, 0))), (3, .inl v3)]) (px_at td_Mo_copies 1 rfl) (by decide) rfl ?_
  obtain ⟨e5, he5, h⟩ := px_b1_e h
  refine pw_L [(0, .inr (some (1, 28, 0))), (1, .inl v1), (2, .inr (some (1, 30, 0))), (3, .inl v3), (4, .inl 0)] [1, 2, 3, 4, 0] rfl ?_
  refine Mo_copies_28_30_L3_l he5 ?_
  obtain rfl := Option.some.inj h
  exact pw_vret (px_at td_Mo_copies 17 rfl) rfl (Nat.le_refl 0) (Nat.le_refl 0) hR
theorem k_Mo_copies_28_30 {l : Launch} {ids : List pxI} {σ : pxS} {v1 : Int32} {v3 : Int32} {res : pxS} (h : F_Mo_copies_28_30 σ v1 v3 = some res) : pm l y_Mo_copies c_Mo_copies 5 none (px_R 1) [.inr (some (1, 28, 0)), .inl v1, .inr (some (1, 30, 0)), .inl v3] ids mG σ (px_r none ids mG res) :=
  pm_ofF (by decide +kernel) (Nat.le_of_ble_eq_true rfl) (e_Mo_copies_28_30 h ⟨rfl, rfl, rfl, rfl⟩)
/-! Mo_keep -/
def F_Mo_keep (σ : pxS)  : Option (Int32 × pxS) :=
  px_l (px_up σ (0, 0, 0) 0 0) fun σ1 =>
  px_b1 (F_Mo_copies_28_30 σ1 0 0) fun σ2 =>
  px_l (px_up σ2 (0, 0, 0) 33 1) fun σ3 =>
  some ((σ3 (1, 28, 0) 182), σ3)
set_option maxRecDepth 100000 in
theorem e_Mo_keep {l : Launch} {ids : List pxI} {Rt : Option pxV → List pxI → pxG → pxS → Prop} {σ : pxS}  {res : Int32 × pxS} (h : F_Mo_keep σ  = some res) (hR : Rt (some (.inl res.1)) ids mG res.2) : pw l (px_R 2) y_Mo_keep c_Mo_keep 1 (some .int) 0 [(0, .inr (some (0, 0, 0)))] [] ids mG σ 0 0 Rt := by
  unfold F_Mo_keep at h
  refine pw_aload_n 0 (px_at td_Mo_keep 0 rfl) rfl rfl ?_
  refine pw_iconst (v := 0) (px_at td_Mo_keep 1 rfl) (by decide) ?_
  obtain ⟨σ1, hσ1, h⟩ := px_l_e h
  refine pw_puti (px_at td_Mo_keep 2 rfl) lw_Mo_99 rfl rfl (pw_s hσ1 ?_)
  refine pw_aload_n 0 (px_at td_Mo_keep 3 rfl) rfl rfl ?_
  refine pw_getf (v := .inr (some (1, 28, 0))) (px_at td_Mo_keep 4 rfl) lf_Mo_63 rfl rfl rfl ?_
  refine pw_iconst (v := 0) (px_at td_Mo_keep 5 rfl) (by decide) ?_
  refine pw_aload_n 0 (px_at td_Mo_keep 6 rfl) rfl rfl ?_
  refine pw_getf (v := .inr (some (1, 30, 0))) (px_at td_Mo_keep 7 rfl) lf_Mo_69 rfl rfl rfl ?_
  refine pw_iconst (v := 0) (px_at td_Mo_keep 8 rfl) (by decide) ?_
  obtain ⟨σ2, hk2, h⟩ := px_b1_e h
  refine pw_cS0 [.inr (some (1, 28, 0)), .inl 0, .inr (some (1, 30, 0)), .inl 0] [] (px_at td_Mo_keep 9 rfl) lS_Mo_226 rfl rfl (Nat.le_of_ble_eq_true rfl) (by decide) (k_Mo_copies_28_30 hk2) ?_
  refine pw_aload_n 0 (px_at td_Mo_keep 10 rfl) rfl rfl ?_
  refine pw_iconst (v := 1) (px_at td_Mo_keep 11 rfl) (by decide) ?_
  obtain ⟨σ3, hσ3, h⟩ := px_l_e h
  refine pw_putz (px_at td_Mo_keep 12 rfl) lw_Mo_219 rfl rfl (by decide) (pw_s hσ3 ?_)
  refine pw_aload_n 0 (px_at td_Mo_keep 13 rfl) rfl rfl ?_
  refine pw_getf (v := .inr (some (1, 28, 0))) (px_at td_Mo_keep 14 rfl) lf_Mo_63 rfl rfl rfl ?_
  refine pw_sipush (v := 182) (px_at td_Mo_keep 15 rfl) (by decide) ?_
  refine pw_ial (px_at td_Mo_keep 16 rfl) rfl (px_inL (by decide) px_z182 (by decide)) px_z182 ?_
  obtain rfl := Option.some.inj h
  exact pw_iret (px_at td_Mo_keep 17 rfl) rfl (Nat.le_refl 0) (Nat.le_refl 0) hR
theorem k_Mo_keep {l : Launch} {ids : List pxI} {σ : pxS}  {res : Int32 × pxS} (h : F_Mo_keep σ  = some res) : pm l y_Mo_keep c_Mo_keep 1 (some .int) (px_R 2) [.inr (some (0, 0, 0))] ids mG σ (px_r (some (.inl res.1)) ids mG res.2) :=
  pm_ofF (by decide +kernel) (Nat.le_of_ble_eq_true rfl) (e_Mo_keep h ⟨rfl, rfl, rfl, rfl⟩)
/-! Mo_copies_30_28 -/
def Mo_copies_30_28_n3 (σ : pxS) (v1 : Int32) (v3 : Int32) (v4 : Int32) : Option ((Int32 × pxS) ⊕ (pxS)) :=
  (if 308 ≤ v4 then some (.inr σ) else px_gd (v1 + v4) 308 (px_gd (v3 + v4) 308 (px_l (px_up σ (1, 28, 0) (v3 + v4).toNatClampNeg (σ (1, 30, 0) (v1 + v4).toNatClampNeg)) fun σ3 =>
  some (.inl ((v4 + 1), σ3)))))
set_option maxRecDepth 100000 in
theorem Mo_copies_30_28_n3_l {l : Launch} {ids : List pxI} {Rt : Option pxV → List pxI → pxG → pxS → Prop} {σ : pxS} {v1 : Int32} {v3 : Int32} {v4 : Int32} {o : (Int32 × pxS) ⊕ (pxS)} (h : Mo_copies_30_28_n3 σ v1 v3 v4 = some o) (hC : ∀ s, o = .inl s → pw l (px_R 1) y_Mo_copies c_Mo_copies 5 none 3 [(0, .inr (some (1, 30, 0))), (1, .inl v1), (2, .inr (some (1, 28, 0))), (3, .inl v3), (4, .inl s.1)] [] ids mG s.2 0 0 Rt) (hX0 : ∀ e, o = .inr e → pw l (px_R 1) y_Mo_copies c_Mo_copies 5 none 29 [] [] ids mG e 0 0 Rt) : pw l (px_R 1) y_Mo_copies c_Mo_copies 5 none 3 [(0, .inr (some (1, 30, 0))), (1, .inl v1), (2, .inr (some (1, 28, 0))), (3, .inl v3), (4, .inl v4)] [] ids mG σ 0 0 Rt := by
  unfold Mo_copies_30_28_n3 at h
  refine pw_iload 4 (px_at td_Mo_copies 2 rfl) rfl ?_
  refine pw_sipush (v := 308) (px_at td_Mo_copies 3 rfl) (by decide) ?_
  rcases px_ite h with ⟨hc4, h⟩ | ⟨hc4, h⟩
  · refine pw_icmp_ge 29 (px_at td_Mo_copies 4 rfl) (by decide) (fun _ => ?_) (fun hn => absurd hc4 hn)
    refine pw_L [] [] rfl ?_
    exact hX0 σ (Option.some.inj h).symm
  · refine pw_icmp_ge 29 (px_at td_Mo_copies 4 rfl) (by decide) (fun hn => absurd hn hc4) (fun _ => ?_)
    refine pw_aload_n 2 (px_at td_Mo_copies 5 rfl) rfl rfl ?_
    refine pw_iload_n 3 (px_at td_Mo_copies 6 rfl) rfl rfl ?_
    refine pw_iload 4 (px_at td_Mo_copies 7 rfl) rfl ?_
    refine pw_iadd (px_at td_Mo_copies 8 rfl) ?_
    refine pw_aload_n 0 (px_at td_Mo_copies 9 rfl) rfl rfl ?_
    refine pw_iload_n 1 (px_at td_Mo_copies 10 rfl) rfl rfl ?_
    refine pw_iload 4 (px_at td_Mo_copies 11 rfl) rfl ?_
    refine pw_iadd (px_at td_Mo_copies 12 rfl) ?_
    obtain ⟨hi1, h⟩ := px_gd_e h
    refine pw_ial (px_at td_Mo_copies 13 rfl) rfl hi1 rfl ?_
    obtain ⟨hi2, h⟩ := px_gd_e h
    obtain ⟨σ3, hσ3, h⟩ := px_l_e h
    refine pw_ias (px_at td_Mo_copies 14 rfl) rfl hi2 rfl hσ3 ?_
    refine pw_iinc (q := 4) (v := (v4 + 1)) (L' := [(4, .inl (v4 + 1)), (0, .inr (some (1, 30, 0))), (1, .inl v1), (2, .inr (some (1, 28, 0))), (3, .inl v3)]) (px_at td_Mo_copies 15 rfl) rfl rfl (by decide) rfl ?_
    refine pw_goto 3 (px_at td_Mo_copies 16 rfl) (by decide) ?_
    refine pw_L [(0, .inr (some (1, 30, 0))), (1, .inl v1), (2, .inr (some (1, 28, 0))), (3, .inl v3), (4, .inl (v4 + 1))] [1, 2, 3, 4, 0] rfl ?_
    exact hC ((v4 + 1), σ3) (Option.some.inj h).symm
def Mo_copies_30_28_L3 (v1 : Int32) (v3 : Int32) : (Int32 × pxS) → Option ((Int32 × pxS) ⊕ (pxS)) := fun s => Mo_copies_30_28_n3 s.2 v1 v3 s.1
set_option maxRecDepth 100000 in
theorem Mo_copies_30_28_L3_l {l : Launch} {ids : List pxI} {Rt : Option pxV → List pxI → pxG → pxS → Prop} {v1 : Int32} {v3 : Int32} {n : Nat} {s : Int32 × pxS} {e : pxS} (h : px_it (Mo_copies_30_28_L3 v1 v3) n s = some e) (hX0 : pw l (px_R 1) y_Mo_copies c_Mo_copies 5 none 29 [] [] ids mG e 0 0 Rt) : pw l (px_R 1) y_Mo_copies c_Mo_copies 5 none 3 [(0, .inr (some (1, 30, 0))), (1, .inl v1), (2, .inr (some (1, 28, 0))), (3, .inl v3), (4, .inl s.1)] [] ids mG s.2 0 0 Rt := by
  refine px_it_rule (f := Mo_copies_30_28_L3 v1 v3) (C := fun s => pw l (px_R 1) y_Mo_copies c_Mo_copies 5 none 3 [(0, .inr (some (1, 30, 0))), (1, .inl v1), (2, .inr (some (1, 28, 0))), (3, .inl v3), (4, .inl s.1)] [] ids mG s.2 0 0 Rt) (X := fun e => (pw l (px_R 1) y_Mo_copies c_Mo_copies 5 none 29 [] [] ids mG e 0 0 Rt)) ?_ ?_ n s e h hX0
  · intro s s1 hf hC
    exact Mo_copies_30_28_n3_l hf (fun s2 hs => by cases hs; exact hC) (fun e he => by cases he)
  · intro s e hf hX
    exact Mo_copies_30_28_n3_l hf (fun s2 hs => by cases hs) (fun e1 he => by cases he; exact hX)
def F_Mo_copies_30_28 (σ : pxS) (v1 : Int32) (v3 : Int32) : Option (pxS) :=
  px_b1 (px_it (Mo_copies_30_28_L3 v1 v3) px_N (0, σ)) fun e5 =>
  some e5
set_option maxRecDepth 100000 in
theorem e_Mo_copies_30_28 {l : Launch} {ids : List pxI} {Rt : Option pxV → List pxI → pxG → pxS → Prop} {σ : pxS} {v1 : Int32} {v3 : Int32} {res : pxS} (h : F_Mo_copies_30_28 σ v1 v3 = some res) (hR : Rt none ids mG res) : pw l (px_R 1) y_Mo_copies c_Mo_copies 5 none 0 [(0, .inr (some (1, 30, 0))), (1, .inl v1), (2, .inr (some (1, 28, 0))), (3, .inl v3)] [] ids mG σ 0 0 Rt := by
  unfold F_Mo_copies_30_28 at h
  refine pw_iconst (v := 0) (px_at td_Mo_copies 0 rfl) (by decide) ?_
  refine pw_istore (L' := [(4, .inl 0), (0, .inr (some (1, 30, 0))), (1, .inl v1), (2, .inr (some (1, 28, 0))), (3, .inl v3)]) (px_at td_Mo_copies 1 rfl) (by decide) rfl ?_
  obtain ⟨e5, he5, h⟩ := px_b1_e h
  refine pw_L [(0, .inr (some (1, 30, 0))), (1, .inl v1), (2, .inr (some (1, 28, 0))), (3, .inl v3), (4, .inl 0)] [1, 2, 3, 4, 0] rfl ?_
  refine Mo_copies_30_28_L3_l he5 ?_
  obtain rfl := Option.some.inj h
  exact pw_vret (px_at td_Mo_copies 17 rfl) rfl (Nat.le_refl 0) (Nat.le_refl 0) hR
theorem k_Mo_copies_30_28 {l : Launch} {ids : List pxI} {σ : pxS} {v1 : Int32} {v3 : Int32} {res : pxS} (h : F_Mo_copies_30_28 σ v1 v3 = some res) : pm l y_Mo_copies c_Mo_copies 5 none (px_R 1) [.inr (some (1, 30, 0)), .inl v1, .inr (some (1, 28, 0)), .inl v3] ids mG σ (px_r none ids mG res) :=
  pm_ofF (by decide +kernel) (Nat.le_of_ble_eq_true rfl) (e_Mo_copies_30_28 h ⟨rfl, rfl, rfl, rfl⟩)
/-! Mo_back -/
def F_Mo_back (σ : pxS)  : Option (Int32 × pxS) :=
  px_l (px_up σ (0, 0, 0) 0 0) fun σ1 =>
  (if (σ1 (0, 0, 0) 33) = 0 then some ((-1), σ1) else px_b1 (F_Mo_copies_30_28 σ1 0 0) fun σ2 =>
  px_l (px_up σ2 (0, 0, 0) 32 0) fun σ3 =>
  some ((σ3 (1, 28, 0) 182), σ3))
set_option maxRecDepth 100000 in
theorem e_Mo_back {l : Launch} {ids : List pxI} {Rt : Option pxV → List pxI → pxG → pxS → Prop} {σ : pxS}  {res : Int32 × pxS} (h : F_Mo_back σ  = some res) (hR : Rt (some (.inl res.1)) ids mG res.2) : pw l (px_R 2) y_Mo_back c_Mo_back 1 (some .int) 0 [(0, .inr (some (0, 0, 0)))] [] ids mG σ 0 0 Rt := by
  unfold F_Mo_back at h
  refine pw_aload_n 0 (px_at td_Mo_back 0 rfl) rfl rfl ?_
  refine pw_iconst (v := 0) (px_at td_Mo_back 1 rfl) (by decide) ?_
  obtain ⟨σ1, hσ1, h⟩ := px_l_e h
  refine pw_puti (px_at td_Mo_back 2 rfl) lw_Mo_99 rfl rfl (pw_s hσ1 ?_)
  refine pw_aload_n 0 (px_at td_Mo_back 3 rfl) rfl rfl ?_
  refine pw_getf (v := .inl (σ1 (0, 0, 0) 33)) (px_at td_Mo_back 4 rfl) lf_Mo_219 rfl rfl rfl ?_
  rcases px_ite h with ⟨hc4, h⟩ | ⟨hc4, h⟩
  · refine pw_if_ne 14 (px_at td_Mo_back 5 rfl) (by decide) (fun hn => absurd hc4 hn) (fun _ => ?_)
    refine pw_iconst (v := (-1)) (px_at td_Mo_back 6 rfl) (by decide) ?_
    obtain rfl := Option.some.inj h
    exact pw_iret (px_at td_Mo_back 7 rfl) rfl (Nat.le_refl 0) (Nat.le_refl 0) hR
  · refine pw_if_ne 14 (px_at td_Mo_back 5 rfl) (by decide) (fun _ => ?_) (fun hn => absurd hn hc4)
    refine pw_aload_n 0 (px_at td_Mo_back 8 rfl) rfl rfl ?_
    refine pw_getf (v := .inr (some (1, 30, 0))) (px_at td_Mo_back 9 rfl) lf_Mo_69 rfl rfl rfl ?_
    refine pw_iconst (v := 0) (px_at td_Mo_back 10 rfl) (by decide) ?_
    refine pw_aload_n 0 (px_at td_Mo_back 11 rfl) rfl rfl ?_
    refine pw_getf (v := .inr (some (1, 28, 0))) (px_at td_Mo_back 12 rfl) lf_Mo_63 rfl rfl rfl ?_
    refine pw_iconst (v := 0) (px_at td_Mo_back 13 rfl) (by decide) ?_
    obtain ⟨σ2, hk2, h⟩ := px_b1_e h
    refine pw_cS0 [.inr (some (1, 30, 0)), .inl 0, .inr (some (1, 28, 0)), .inl 0] [] (px_at td_Mo_back 14 rfl) lS_Mo_226 rfl rfl (Nat.le_of_ble_eq_true rfl) (by decide) (k_Mo_copies_30_28 hk2) ?_
    refine pw_aload_n 0 (px_at td_Mo_back 15 rfl) rfl rfl ?_
    refine pw_iconst (v := 0) (px_at td_Mo_back 16 rfl) (by decide) ?_
    obtain ⟨σ3, hσ3, h⟩ := px_l_e h
    refine pw_puti (px_at td_Mo_back 17 rfl) lw_Mo_216 rfl rfl (pw_s hσ3 ?_)
    refine pw_aload_n 0 (px_at td_Mo_back 18 rfl) rfl rfl ?_
    refine pw_getf (v := .inr (some (1, 28, 0))) (px_at td_Mo_back 19 rfl) lf_Mo_63 rfl rfl rfl ?_
    refine pw_sipush (v := 182) (px_at td_Mo_back 20 rfl) (by decide) ?_
    refine pw_ial (px_at td_Mo_back 21 rfl) rfl (px_inL (by decide) px_z182 (by decide)) px_z182 ?_
    obtain rfl := Option.some.inj h
    exact pw_iret (px_at td_Mo_back 22 rfl) rfl (Nat.le_refl 0) (Nat.le_refl 0) hR
theorem k_Mo_back {l : Launch} {ids : List pxI} {σ : pxS}  {res : Int32 × pxS} (h : F_Mo_back σ  = some res) : pm l y_Mo_back c_Mo_back 1 (some .int) (px_R 2) [.inr (some (0, 0, 0))] ids mG σ (px_r (some (.inl res.1)) ids mG res.2) :=
  pm_ofF (by decide +kernel) (Nat.le_of_ble_eq_true rfl) (e_Mo_back h ⟨rfl, rfl, rfl, rfl⟩)
/-! Mo_state -/
def F_Mo_state (σ : pxS) (v1 : Int32) : Option (Int32) :=
  px_gd ((13 * v1) + 0) 308 (some ((σ (1, 28, 0) ((13 * v1) + 0).toNatClampNeg)))
set_option maxRecDepth 100000 in
theorem e_Mo_state {l : Launch} {ids : List pxI} {Rt : Option pxV → List pxI → pxG → pxS → Prop} {σ : pxS} {v1 : Int32} {res : Int32} (h : F_Mo_state σ v1 = some res) (hR : Rt (some (.inl res)) ids mG σ) : pw l (px_R 1) y_Mo_state c_Mo_state 2 (some .int) 0 [(0, .inr (some (0, 0, 0))), (1, .inl v1)] [] ids mG σ 0 0 Rt := by
  unfold F_Mo_state at h
  refine pw_aload_n 0 (px_at td_Mo_state 0 rfl) rfl rfl ?_
  refine pw_getf (v := .inr (some (1, 28, 0))) (px_at td_Mo_state 1 rfl) lf_Mo_63 rfl rfl rfl ?_
  refine pw_bipush (v := 13) (px_at td_Mo_state 2 rfl) (by decide) ?_
  refine pw_iload_n 1 (px_at td_Mo_state 3 rfl) rfl rfl ?_
  refine pw_imul (px_at td_Mo_state 4 rfl) ?_
  refine pw_iconst (v := 0) (px_at td_Mo_state 5 rfl) (by decide) ?_
  refine pw_iadd (px_at td_Mo_state 6 rfl) ?_
  obtain ⟨hi1, h⟩ := px_gd_e h
  refine pw_ial (px_at td_Mo_state 7 rfl) rfl hi1 rfl ?_
  obtain rfl := Option.some.inj h
  exact pw_iret (px_at td_Mo_state 8 rfl) rfl (Nat.le_refl 0) (Nat.le_refl 0) hR
theorem k_Mo_state {l : Launch} {ids : List pxI} {σ : pxS} {v1 : Int32} {res : Int32} (h : F_Mo_state σ v1 = some res) : pm l y_Mo_state c_Mo_state 2 (some .int) (px_R 1) [.inr (some (0, 0, 0)), .inl v1] ids mG σ (px_r (some (.inl res)) ids mG σ) :=
  pm_ofF (by decide +kernel) (Nat.le_of_ble_eq_true rfl) (e_Mo_state h ⟨rfl, rfl, rfl, rfl⟩)
/-! Mo_state_ -/
def F_Mo_state_ (σ : pxS) (v1 : Int32) (v2 : Int32) : Option (pxS) :=
  px_gd ((13 * v1) + 0) 308 (px_l (px_up σ (1, 28, 0) ((13 * v1) + 0).toNatClampNeg v2) fun σ2 =>
  some σ2)
set_option maxRecDepth 100000 in
theorem e_Mo_state_ {l : Launch} {ids : List pxI} {Rt : Option pxV → List pxI → pxG → pxS → Prop} {σ : pxS} {v1 : Int32} {v2 : Int32} {res : pxS} (h : F_Mo_state_ σ v1 v2 = some res) (hR : Rt none ids mG res) : pw l (px_R 1) y_Mo_state_ c_Mo_state_ 3 none 0 [(0, .inr (some (0, 0, 0))), (1, .inl v1), (2, .inl v2)] [] ids mG σ 0 0 Rt := by
  unfold F_Mo_state_ at h
  refine pw_aload_n 0 (px_at td_Mo_state_ 0 rfl) rfl rfl ?_
  refine pw_getf (v := .inr (some (1, 28, 0))) (px_at td_Mo_state_ 1 rfl) lf_Mo_63 rfl rfl rfl ?_
  refine pw_bipush (v := 13) (px_at td_Mo_state_ 2 rfl) (by decide) ?_
  refine pw_iload_n 1 (px_at td_Mo_state_ 3 rfl) rfl rfl ?_
  refine pw_imul (px_at td_Mo_state_ 4 rfl) ?_
  refine pw_iconst (v := 0) (px_at td_Mo_state_ 5 rfl) (by decide) ?_
  refine pw_iadd (px_at td_Mo_state_ 6 rfl) ?_
  refine pw_iload_n 2 (px_at td_Mo_state_ 7 rfl) rfl rfl ?_
  obtain ⟨hi1, h⟩ := px_gd_e h
  obtain ⟨σ2, hσ2, h⟩ := px_l_e h
  refine pw_ias (px_at td_Mo_state_ 8 rfl) rfl hi1 rfl hσ2 ?_
  obtain rfl := Option.some.inj h
  exact pw_vret (px_at td_Mo_state_ 9 rfl) rfl (Nat.le_refl 0) (Nat.le_refl 0) hR
theorem k_Mo_state_ {l : Launch} {ids : List pxI} {σ : pxS} {v1 : Int32} {v2 : Int32} {res : pxS} (h : F_Mo_state_ σ v1 v2 = some res) : pm l y_Mo_state_ c_Mo_state_ 3 none (px_R 1) [.inr (some (0, 0, 0)), .inl v1, .inl v2] ids mG σ (px_r none ids mG res) :=
  pm_ofF (by decide +kernel) (Nat.le_of_ble_eq_true rfl) (e_Mo_state_ h ⟨rfl, rfl, rfl, rfl⟩)
/-! Mo_isGood -/
def Mo_isGood_n43 (σ : pxS)  : Option (Int32) :=
  some (0)
set_option maxRecDepth 100000 in
theorem Mo_isGood_n43_l {l : Launch} {ids : List pxI} {Rt : Option pxV → List pxI → pxG → pxS → Prop} {σ : pxS}  {res : Int32} (h : Mo_isGood_n43 σ  = some res) (hR : Rt (some (.inl res)) ids mG σ) : pw l (px_R 2) y_Mo_isGood c_Mo_isGood 2 (some .boolean) 43 [] [] ids mG σ 0 0 Rt := by
  unfold Mo_isGood_n43 at h
  refine pw_iconst (v := 0) (px_at td_Mo_isGood 27 rfl) (by decide) ?_
  obtain rfl := Option.some.inj h
  exact pw_zret (px_at td_Mo_isGood 28 rfl) rfl (by decide) (Nat.le_refl 0) (Nat.le_refl 0) hR
def F_Mo_isGood (σ : pxS) (v1 : Int32) : Option (Int32) :=
  px_b1 (F_Mo_state σ v1) fun r1 =>
  (if r1 = 3 then px_gd ((13 * v1) + 1) 308 (px_gd v1 24 ((if ((σ (1, 28, 0) ((13 * v1) + 1).toNatClampNeg) * 100) < ((σ (1, 7, 0) v1.toNatClampNeg) * (σ (1, 3, 0) 5)) then Mo_isGood_n43 σ  else some (1)))) else Mo_isGood_n43 σ )
set_option maxRecDepth 100000 in
theorem e_Mo_isGood {l : Launch} {ids : List pxI} {Rt : Option pxV → List pxI → pxG → pxS → Prop} {σ : pxS} {v1 : Int32} {res : Int32} (h : F_Mo_isGood σ v1 = some res) (hR : Rt (some (.inl res)) ids mG σ) : pw l (px_R 2) y_Mo_isGood c_Mo_isGood 2 (some .boolean) 0 [(0, .inr (some (0, 0, 0))), (1, .inl v1)] [] ids mG σ 0 0 Rt := by
  unfold F_Mo_isGood at h
  refine pw_aload_n 0 (px_at td_Mo_isGood 0 rfl) rfl rfl ?_
  refine pw_iload_n 1 (px_at td_Mo_isGood 1 rfl) rfl rfl ?_
  obtain ⟨r1, hk1, h⟩ := px_b1_e h
  refine pw_cV1 (0, 0, 0) [.inl v1] [] (px_at td_Mo_isGood 2 rfl) lV_Mo_230 rfl rfl rfl (Nat.le_of_ble_eq_true rfl) (by decide) (k_Mo_state hk1) ?_
  refine pw_iconst (v := 3) (px_at td_Mo_isGood 3 rfl) (by decide) ?_
  rcases px_ite h with ⟨hc5, h⟩ | ⟨hc5, h⟩
  · refine pw_icmp_ne 43 (px_at td_Mo_isGood 4 rfl) (by decide) (fun hn => absurd hc5 hn) (fun _ => ?_)
    refine pw_aload_n 0 (px_at td_Mo_isGood 5 rfl) rfl rfl ?_
    refine pw_getf (v := .inr (some (1, 28, 0))) (px_at td_Mo_isGood 6 rfl) lf_Mo_63 rfl rfl rfl ?_
    refine pw_bipush (v := 13) (px_at td_Mo_isGood 7 rfl) (by decide) ?_
    refine pw_iload_n 1 (px_at td_Mo_isGood 8 rfl) rfl rfl ?_
    refine pw_imul (px_at td_Mo_isGood 9 rfl) ?_
    refine pw_iconst (v := 1) (px_at td_Mo_isGood 10 rfl) (by decide) ?_
    refine pw_iadd (px_at td_Mo_isGood 11 rfl) ?_
    obtain ⟨hi2, h⟩ := px_gd_e h
    refine pw_ial (px_at td_Mo_isGood 12 rfl) rfl hi2 rfl ?_
    refine pw_bipush (v := 100) (px_at td_Mo_isGood 13 rfl) (by decide) ?_
    refine pw_imul (px_at td_Mo_isGood 14 rfl) ?_
    refine pw_aload_n 0 (px_at td_Mo_isGood 15 rfl) rfl rfl ?_
    refine pw_getf (v := .inr (some (1, 7, 0))) (px_at td_Mo_isGood 16 rfl) lf_Mo_26 rfl rfl rfl ?_
    refine pw_iload_n 1 (px_at td_Mo_isGood 17 rfl) rfl rfl ?_
    obtain ⟨hi3, h⟩ := px_gd_e h
    refine pw_ial (px_at td_Mo_isGood 18 rfl) rfl hi3 rfl ?_
    refine pw_aload_n 0 (px_at td_Mo_isGood 19 rfl) rfl rfl ?_
    refine pw_getf (v := .inr (some (1, 3, 0))) (px_at td_Mo_isGood 20 rfl) lf_Mo_13 rfl rfl rfl ?_
    refine pw_iconst (v := 5) (px_at td_Mo_isGood 21 rfl) (by decide) ?_
    refine pw_ial (px_at td_Mo_isGood 22 rfl) rfl (px_inL (by decide) px_z5 (by decide)) px_z5 ?_
    refine pw_imul (px_at td_Mo_isGood 23 rfl) ?_
    rcases px_ite h with ⟨hc4, h⟩ | ⟨hc4, h⟩
    · refine pw_icmp_lt 43 (px_at td_Mo_isGood 24 rfl) (by decide) (fun _ => ?_) (fun hn => absurd hc4 hn)
      refine pw_L [] [] rfl ?_
      exact Mo_isGood_n43_l h hR
    · refine pw_icmp_lt 43 (px_at td_Mo_isGood 24 rfl) (by decide) (fun hn => absurd hn hc4) (fun _ => ?_)
      refine pw_iconst (v := 1) (px_at td_Mo_isGood 25 rfl) (by decide) ?_
      refine pw_goto 44 (px_at td_Mo_isGood 26 rfl) (by decide) ?_
      obtain rfl := Option.some.inj h
      exact pw_zret (px_at td_Mo_isGood 28 rfl) rfl (by decide) (Nat.le_refl 0) (Nat.le_refl 0) hR
  · refine pw_icmp_ne 43 (px_at td_Mo_isGood 4 rfl) (by decide) (fun _ => ?_) (fun hn => absurd hn hc5)
    refine pw_L [] [] rfl ?_
    exact Mo_isGood_n43_l h hR
theorem k_Mo_isGood {l : Launch} {ids : List pxI} {σ : pxS} {v1 : Int32} {res : Int32} (h : F_Mo_isGood σ v1 = some res) : pm l y_Mo_isGood c_Mo_isGood 2 (some .boolean) (px_R 2) [.inr (some (0, 0, 0)), .inl v1] ids mG σ (px_r (some (.inl res)) ids mG σ) :=
  pm_ofF (by decide +kernel) (Nat.le_of_ble_eq_true rfl) (e_Mo_isGood h ⟨rfl, rfl, rfl, rfl⟩)
/-! Mo_logs -/
def Mo_logs_n10 (σ : pxS) (v1 : Int32) (v2 : Int32) (v3 : Int32) (v4 : Int32) : Option ((Int32 × pxS) ⊕ (pxS)) :=
  (if 3 ≤ v4 then some (.inr σ) else px_gd (((188 + (3 * v3)) - 3) + v4) 308 (px_gd ((188 + (3 * v3)) + v4) 308 (px_l (px_up σ (1, 28, 0) ((188 + (3 * v3)) + v4).toNatClampNeg (σ (1, 28, 0) (((188 + (3 * v3)) - 3) + v4).toNatClampNeg)) fun σ3 =>
  some (.inl ((v4 + 1), σ3)))))
set_option maxRecDepth 100000 in
theorem Mo_logs_n10_l {l : Launch} {ids : List pxI} {Rt : Option pxV → List pxI → pxG → pxS → Prop} {σ : pxS} {v1 : Int32} {v2 : Int32} {v3 : Int32} {v4 : Int32} {o : (Int32 × pxS) ⊕ (pxS)} (h : Mo_logs_n10 σ v1 v2 v3 v4 = some o) (hC : ∀ s, o = .inl s → pw l (px_R 1) y_Mo_logs c_Mo_logs 5 none 10 [(0, .inr (some (0, 0, 0))), (1, .inl v1), (2, .inl v2), (3, .inl v3), (4, .inl s.1)] [] ids mG s.2 0 0 Rt) (hX0 : ∀ e, o = .inr e → pw l (px_R 1) y_Mo_logs c_Mo_logs 5 none 54 [(0, .inr (some (0, 0, 0))), (1, .inl v1), (2, .inl v2), (3, .inl v3)] [] ids mG e 0 0 Rt) : pw l (px_R 1) y_Mo_logs c_Mo_logs 5 none 10 [(0, .inr (some (0, 0, 0))), (1, .inl v1), (2, .inl v2), (3, .inl v3), (4, .inl v4)] [] ids mG σ 0 0 Rt := by
  unfold Mo_logs_n10 at h
  refine pw_iload 4 (px_at td_Mo_logs 6 rfl) rfl ?_
  refine pw_iconst (v := 3) (px_at td_Mo_logs 7 rfl) (by decide) ?_
  rcases px_ite h with ⟨hc4, h⟩ | ⟨hc4, h⟩
  · refine pw_icmp_ge 54 (px_at td_Mo_logs 8 rfl) (by decide) (fun _ => ?_) (fun hn => absurd hc4 hn)
    refine pw_L [(0, .inr (some (0, 0, 0))), (1, .inl v1), (2, .inl v2), (3, .inl v3)] [0, 1, 2, 3] rfl ?_
    exact hX0 σ (Option.some.inj h).symm
  · refine pw_icmp_ge 54 (px_at td_Mo_logs 8 rfl) (by decide) (fun hn => absurd hn hc4) (fun _ => ?_)
    refine pw_aload_n 0 (px_at td_Mo_logs 9 rfl) rfl rfl ?_
    refine pw_getf (v := .inr (some (1, 28, 0))) (px_at td_Mo_logs 10 rfl) lf_Mo_63 rfl rfl rfl ?_
    refine pw_sipush (v := 188) (px_at td_Mo_logs 11 rfl) (by decide) ?_
    refine pw_iconst (v := 3) (px_at td_Mo_logs 12 rfl) (by decide) ?_
    refine pw_iload_n 3 (px_at td_Mo_logs 13 rfl) rfl rfl ?_
    refine pw_imul (px_at td_Mo_logs 14 rfl) ?_
    refine pw_iadd (px_at td_Mo_logs 15 rfl) ?_
    refine pw_iload 4 (px_at td_Mo_logs 16 rfl) rfl ?_
    refine pw_iadd (px_at td_Mo_logs 17 rfl) ?_
    refine pw_aload_n 0 (px_at td_Mo_logs 18 rfl) rfl rfl ?_
    refine pw_getf (v := .inr (some (1, 28, 0))) (px_at td_Mo_logs 19 rfl) lf_Mo_63 rfl rfl rfl ?_
    refine pw_sipush (v := 188) (px_at td_Mo_logs 20 rfl) (by decide) ?_
    refine pw_iconst (v := 3) (px_at td_Mo_logs 21 rfl) (by decide) ?_
    refine pw_iload_n 3 (px_at td_Mo_logs 22 rfl) rfl rfl ?_
    refine pw_imul (px_at td_Mo_logs 23 rfl) ?_
    refine pw_iadd (px_at td_Mo_logs 24 rfl) ?_
    refine pw_iconst (v := 3) (px_at td_Mo_logs 25 rfl) (by decide) ?_
    refine pw_isub (px_at td_Mo_logs 26 rfl) ?_
    refine pw_iload 4 (px_at td_Mo_logs 27 rfl) rfl ?_
    refine pw_iadd (px_at td_Mo_logs 28 rfl) ?_
    obtain ⟨hi1, h⟩ := px_gd_e h
    refine pw_ial (px_at td_Mo_logs 29 rfl) rfl hi1 rfl ?_
    obtain ⟨hi2, h⟩ := px_gd_e h
    obtain ⟨σ3, hσ3, h⟩ := px_l_e h
    refine pw_ias (px_at td_Mo_logs 30 rfl) rfl hi2 rfl hσ3 ?_
    refine pw_iinc (q := 4) (v := (v4 + 1)) (L' := [(4, .inl (v4 + 1)), (0, .inr (some (0, 0, 0))), (1, .inl v1), (2, .inl v2), (3, .inl v3)]) (px_at td_Mo_logs 31 rfl) rfl rfl (by decide) rfl ?_
    refine pw_goto 10 (px_at td_Mo_logs 32 rfl) (by decide) ?_
    refine pw_L [(0, .inr (some (0, 0, 0))), (1, .inl v1), (2, .inl v2), (3, .inl v3), (4, .inl (v4 + 1))] [1, 2, 3, 4, 0] rfl ?_
    exact hC ((v4 + 1), σ3) (Option.some.inj h).symm
def Mo_logs_L10 (v1 : Int32) (v2 : Int32) (v3 : Int32) : (Int32 × pxS) → Option ((Int32 × pxS) ⊕ (pxS)) := fun s => Mo_logs_n10 s.2 v1 v2 v3 s.1
set_option maxRecDepth 100000 in
theorem Mo_logs_L10_l {l : Launch} {ids : List pxI} {Rt : Option pxV → List pxI → pxG → pxS → Prop} {v1 : Int32} {v2 : Int32} {v3 : Int32} {n : Nat} {s : Int32 × pxS} {e : pxS} (h : px_it (Mo_logs_L10 v1 v2 v3) n s = some e) (hX0 : pw l (px_R 1) y_Mo_logs c_Mo_logs 5 none 54 [(0, .inr (some (0, 0, 0))), (1, .inl v1), (2, .inl v2), (3, .inl v3)] [] ids mG e 0 0 Rt) : pw l (px_R 1) y_Mo_logs c_Mo_logs 5 none 10 [(0, .inr (some (0, 0, 0))), (1, .inl v1), (2, .inl v2), (3, .inl v3), (4, .inl s.1)] [] ids mG s.2 0 0 Rt := by
  refine px_it_rule (f := Mo_logs_L10 v1 v2 v3) (C := fun s => pw l (px_R 1) y_Mo_logs c_Mo_logs 5 none 10 [(0, .inr (some (0, 0, 0))), (1, .inl v1), (2, .inl v2), (3, .inl v3), (4, .inl s.1)] [] ids mG s.2 0 0 Rt) (X := fun e => (pw l (px_R 1) y_Mo_logs c_Mo_logs 5 none 54 [(0, .inr (some (0, 0, 0))), (1, .inl v1), (2, .inl v2), (3, .inl v3)] [] ids mG e 0 0 Rt)) ?_ ?_ n s e h hX0
  · intro s s1 hf hC
    exact Mo_logs_n10_l hf (fun s2 hs => by cases hs; exact hC) (fun e he => by cases he)
  · intro s e hf hX
    exact Mo_logs_n10_l hf (fun s2 hs => by cases hs) (fun e1 he => by cases he; exact hX)
def Mo_logs_n3 (σ : pxS) (v1 : Int32) (v2 : Int32) (v3 : Int32) : Option ((Int32 × pxS) ⊕ (pxS)) :=
  (if v3 ≤ 0 then some (.inr σ) else px_b1 (px_it (Mo_logs_L10 v1 v2 v3) px_N (0, σ)) fun e5 =>
  some (.inl ((v3 + (-1)), e5)))
set_option maxRecDepth 100000 in
theorem Mo_logs_n3_l {l : Launch} {ids : List pxI} {Rt : Option pxV → List pxI → pxG → pxS → Prop} {σ : pxS} {v1 : Int32} {v2 : Int32} {v3 : Int32} {o : (Int32 × pxS) ⊕ (pxS)} (h : Mo_logs_n3 σ v1 v2 v3 = some o) (hC : ∀ s, o = .inl s → pw l (px_R 1) y_Mo_logs c_Mo_logs 5 none 3 [(0, .inr (some (0, 0, 0))), (1, .inl v1), (2, .inl v2), (3, .inl s.1)] [] ids mG s.2 0 0 Rt) (hX0 : ∀ e, o = .inr e → pw l (px_R 1) y_Mo_logs c_Mo_logs 5 none 60 [(0, .inr (some (0, 0, 0))), (1, .inl v1), (2, .inl v2)] [] ids mG e 0 0 Rt) : pw l (px_R 1) y_Mo_logs c_Mo_logs 5 none 3 [(0, .inr (some (0, 0, 0))), (1, .inl v1), (2, .inl v2), (3, .inl v3)] [] ids mG σ 0 0 Rt := by
  unfold Mo_logs_n3 at h
  refine pw_iload_n 3 (px_at td_Mo_logs 2 rfl) rfl rfl ?_
  rcases px_ite h with ⟨hc6, h⟩ | ⟨hc6, h⟩
  · refine pw_if_le 60 (px_at td_Mo_logs 3 rfl) (by decide) (fun _ => ?_) (fun hn => absurd hc6 hn)
    refine pw_L [(0, .inr (some (0, 0, 0))), (1, .inl v1), (2, .inl v2)] [0, 1, 2] rfl ?_
    exact hX0 σ (Option.some.inj h).symm
  · refine pw_if_le 60 (px_at td_Mo_logs 3 rfl) (by decide) (fun hn => absurd hn hc6) (fun _ => ?_)
    refine pw_iconst (v := 0) (px_at td_Mo_logs 4 rfl) (by decide) ?_
    refine pw_istore (L' := [(4, .inl 0), (0, .inr (some (0, 0, 0))), (1, .inl v1), (2, .inl v2), (3, .inl v3)]) (px_at td_Mo_logs 5 rfl) (by decide) rfl ?_
    obtain ⟨e5, he5, h⟩ := px_b1_e h
    refine pw_L [(0, .inr (some (0, 0, 0))), (1, .inl v1), (2, .inl v2), (3, .inl v3), (4, .inl 0)] [1, 2, 3, 4, 0] rfl ?_
    refine Mo_logs_L10_l he5 ?_
    refine pw_iinc (q := 3) (v := (v3 + (-1))) (L' := [(3, .inl (v3 + (-1))), (0, .inr (some (0, 0, 0))), (1, .inl v1), (2, .inl v2)]) (px_at td_Mo_logs 33 rfl) rfl rfl (by decide) rfl ?_
    refine pw_goto 3 (px_at td_Mo_logs 34 rfl) (by decide) ?_
    refine pw_L [(0, .inr (some (0, 0, 0))), (1, .inl v1), (2, .inl v2), (3, .inl (v3 + (-1)))] [1, 2, 3, 0] rfl ?_
    exact hC ((v3 + (-1)), e5) (Option.some.inj h).symm
def Mo_logs_L3 (v1 : Int32) (v2 : Int32) : (Int32 × pxS) → Option ((Int32 × pxS) ⊕ (pxS)) := fun s => Mo_logs_n3 s.2 v1 v2 s.1
set_option maxRecDepth 100000 in
theorem Mo_logs_L3_l {l : Launch} {ids : List pxI} {Rt : Option pxV → List pxI → pxG → pxS → Prop} {v1 : Int32} {v2 : Int32} {n : Nat} {s : Int32 × pxS} {e : pxS} (h : px_it (Mo_logs_L3 v1 v2) n s = some e) (hX0 : pw l (px_R 1) y_Mo_logs c_Mo_logs 5 none 60 [(0, .inr (some (0, 0, 0))), (1, .inl v1), (2, .inl v2)] [] ids mG e 0 0 Rt) : pw l (px_R 1) y_Mo_logs c_Mo_logs 5 none 3 [(0, .inr (some (0, 0, 0))), (1, .inl v1), (2, .inl v2), (3, .inl s.1)] [] ids mG s.2 0 0 Rt := by
  refine px_it_rule (f := Mo_logs_L3 v1 v2) (C := fun s => pw l (px_R 1) y_Mo_logs c_Mo_logs 5 none 3 [(0, .inr (some (0, 0, 0))), (1, .inl v1), (2, .inl v2), (3, .inl s.1)] [] ids mG s.2 0 0 Rt) (X := fun e => (pw l (px_R 1) y_Mo_logs c_Mo_logs 5 none 60 [(0, .inr (some (0, 0, 0))), (1, .inl v1), (2, .inl v2)] [] ids mG e 0 0 Rt)) ?_ ?_ n s e h hX0
  · intro s s1 hf hC
    exact Mo_logs_n3_l hf (fun s2 hs => by cases hs; exact hC) (fun e he => by cases he)
  · intro s e hf hX
    exact Mo_logs_n3_l hf (fun s2 hs => by cases hs) (fun e1 he => by cases he; exact hX)
def F_Mo_logs (σ : pxS) (v1 : Int32) (v2 : Int32) : Option (pxS) :=
  px_b1 (px_it (Mo_logs_L3 v1 v2) px_N (39, σ)) fun e7 =>
  px_l (px_up e7 (1, 28, 0) 188 (e7 (1, 28, 0) 182)) fun σ8 =>
  px_l (px_up σ8 (1, 28, 0) 189 v1) fun σ9 =>
  px_l (px_up σ9 (1, 28, 0) 190 v2) fun σ10 =>
  (if 40 ≤ (σ10 (1, 28, 0) 187) then px_l (px_up σ10 (1, 28, 0) 187 40) fun σ11 =>
  some σ11 else px_l (px_up σ10 (1, 28, 0) 187 ((σ10 (1, 28, 0) 187) + 1)) fun σ12 =>
  some σ12)
set_option maxRecDepth 100000 in
theorem e_Mo_logs {l : Launch} {ids : List pxI} {Rt : Option pxV → List pxI → pxG → pxS → Prop} {σ : pxS} {v1 : Int32} {v2 : Int32} {res : pxS} (h : F_Mo_logs σ v1 v2 = some res) (hR : Rt none ids mG res) : pw l (px_R 1) y_Mo_logs c_Mo_logs 5 none 0 [(0, .inr (some (0, 0, 0))), (1, .inl v1), (2, .inl v2)] [] ids mG σ 0 0 Rt := by
  unfold F_Mo_logs at h
  refine pw_bipush (v := 39) (px_at td_Mo_logs 0 rfl) (by decide) ?_
  refine pw_istore_n (L' := [(3, .inl 39), (0, .inr (some (0, 0, 0))), (1, .inl v1), (2, .inl v2)]) (px_at td_Mo_logs 1 rfl) rfl (by decide) rfl ?_
  obtain ⟨e7, he7, h⟩ := px_b1_e h
  refine pw_L [(0, .inr (some (0, 0, 0))), (1, .inl v1), (2, .inl v2), (3, .inl 39)] [1, 2, 3, 0] rfl ?_
  refine Mo_logs_L3_l he7 ?_
  refine pw_aload_n 0 (px_at td_Mo_logs 35 rfl) rfl rfl ?_
  refine pw_getf (v := .inr (some (1, 28, 0))) (px_at td_Mo_logs 36 rfl) lf_Mo_63 rfl rfl rfl ?_
  refine pw_sipush (v := 188) (px_at td_Mo_logs 37 rfl) (by decide) ?_
  refine pw_aload_n 0 (px_at td_Mo_logs 38 rfl) rfl rfl ?_
  refine pw_getf (v := .inr (some (1, 28, 0))) (px_at td_Mo_logs 39 rfl) lf_Mo_63 rfl rfl rfl ?_
  refine pw_sipush (v := 182) (px_at td_Mo_logs 40 rfl) (by decide) ?_
  refine pw_ial (px_at td_Mo_logs 41 rfl) rfl (px_inL (by decide) px_z182 (by decide)) px_z182 ?_
  obtain ⟨σ8, hσ8, h⟩ := px_l_e h
  refine pw_ias (px_at td_Mo_logs 42 rfl) rfl (px_inL (by decide) px_z188 (by decide)) px_z188 hσ8 ?_
  refine pw_aload_n 0 (px_at td_Mo_logs 43 rfl) rfl rfl ?_
  refine pw_getf (v := .inr (some (1, 28, 0))) (px_at td_Mo_logs 44 rfl) lf_Mo_63 rfl rfl rfl ?_
  refine pw_sipush (v := 189) (px_at td_Mo_logs 45 rfl) (by decide) ?_
  refine pw_iload_n 1 (px_at td_Mo_logs 46 rfl) rfl rfl ?_
  obtain ⟨σ9, hσ9, h⟩ := px_l_e h
  refine pw_ias (px_at td_Mo_logs 47 rfl) rfl (px_inL (by decide) px_z189 (by decide)) px_z189 hσ9 ?_
  refine pw_aload_n 0 (px_at td_Mo_logs 48 rfl) rfl rfl ?_
  refine pw_getf (v := .inr (some (1, 28, 0))) (px_at td_Mo_logs 49 rfl) lf_Mo_63 rfl rfl rfl ?_
  refine pw_sipush (v := 190) (px_at td_Mo_logs 50 rfl) (by decide) ?_
  refine pw_iload_n 2 (px_at td_Mo_logs 51 rfl) rfl rfl ?_
  obtain ⟨σ10, hσ10, h⟩ := px_l_e h
  refine pw_ias (px_at td_Mo_logs 52 rfl) rfl (px_inL (by decide) px_z190 (by decide)) px_z190 hσ10 ?_
  refine pw_aload_n 0 (px_at td_Mo_logs 53 rfl) rfl rfl ?_
  refine pw_getf (v := .inr (some (1, 28, 0))) (px_at td_Mo_logs 54 rfl) lf_Mo_63 rfl rfl rfl ?_
  refine pw_sipush (v := 187) (px_at td_Mo_logs 55 rfl) (by decide) ?_
  refine pw_aload_n 0 (px_at td_Mo_logs 56 rfl) rfl rfl ?_
  refine pw_getf (v := .inr (some (1, 28, 0))) (px_at td_Mo_logs 57 rfl) lf_Mo_63 rfl rfl rfl ?_
  refine pw_sipush (v := 187) (px_at td_Mo_logs 58 rfl) (by decide) ?_
  refine pw_ial (px_at td_Mo_logs 59 rfl) rfl (px_inL (by decide) px_z187 (by decide)) px_z187 ?_
  refine pw_bipush (v := 40) (px_at td_Mo_logs 60 rfl) (by decide) ?_
  rcases px_ite h with ⟨hc13, h⟩ | ⟨hc13, h⟩
  · refine pw_icmp_ge 127 (px_at td_Mo_logs 61 rfl) (by decide) (fun _ => ?_) (fun hn => absurd hc13 hn)
    refine pw_bipush (v := 40) (px_at td_Mo_logs 69 rfl) (by decide) ?_
    obtain ⟨σ11, hσ11, h⟩ := px_l_e h
    refine pw_ias (px_at td_Mo_logs 70 rfl) rfl (px_inL (by decide) px_z187 (by decide)) px_z187 hσ11 ?_
    obtain rfl := Option.some.inj h
    exact pw_vret (px_at td_Mo_logs 71 rfl) rfl (Nat.le_refl 0) (Nat.le_refl 0) hR
  · refine pw_icmp_ge 127 (px_at td_Mo_logs 61 rfl) (by decide) (fun hn => absurd hn hc13) (fun _ => ?_)
    refine pw_aload_n 0 (px_at td_Mo_logs 62 rfl) rfl rfl ?_
    refine pw_getf (v := .inr (some (1, 28, 0))) (px_at td_Mo_logs 63 rfl) lf_Mo_63 rfl rfl rfl ?_
    refine pw_sipush (v := 187) (px_at td_Mo_logs 64 rfl) (by decide) ?_
    refine pw_ial (px_at td_Mo_logs 65 rfl) rfl (px_inL (by decide) px_z187 (by decide)) px_z187 ?_
    refine pw_iconst (v := 1) (px_at td_Mo_logs 66 rfl) (by decide) ?_
    refine pw_iadd (px_at td_Mo_logs 67 rfl) ?_
    refine pw_goto 129 (px_at td_Mo_logs 68 rfl) (by decide) ?_
    obtain ⟨σ12, hσ12, h⟩ := px_l_e h
    refine pw_ias (px_at td_Mo_logs 70 rfl) rfl (px_inL (by decide) px_z187 (by decide)) px_z187 hσ12 ?_
    obtain rfl := Option.some.inj h
    exact pw_vret (px_at td_Mo_logs 71 rfl) rfl (Nat.le_refl 0) (Nat.le_refl 0) hR
theorem k_Mo_logs {l : Launch} {ids : List pxI} {σ : pxS} {v1 : Int32} {v2 : Int32} {res : pxS} (h : F_Mo_logs σ v1 v2 = some res) : pm l y_Mo_logs c_Mo_logs 5 none (px_R 1) [.inr (some (0, 0, 0)), .inl v1, .inl v2] ids mG σ (px_r none ids mG res) :=
  pm_ofF (by decide +kernel) (Nat.le_of_ble_eq_true rfl) (e_Mo_logs h ⟨rfl, rfl, rfl, rfl⟩)
/-! Mo_goesOut -/
def Mo_goesOut_n62 (σ : pxS) (v1 : Int32) (v2 : Int32) (v3 : Int32) (v4 : Int32) (v5 : Int32) : Option ((Int32 × Int32 × pxS) ⊕ (Int32 × pxS)) :=
  some (.inl (v4, (v5 + 1), σ))
set_option maxRecDepth 100000 in
theorem Mo_goesOut_n62_l {l : Launch} {ids : List pxI} {Rt : Option pxV → List pxI → pxG → pxS → Prop} {σ : pxS} {v1 : Int32} {v2 : Int32} {v3 : Int32} {v4 : Int32} {v5 : Int32} {o : (Int32 × Int32 × pxS) ⊕ (Int32 × pxS)} (h : Mo_goesOut_n62 σ v1 v2 v3 v4 v5 = some o) (hC : ∀ s, o = .inl s → pw l (px_R 1) y_Mo_goesOut c_Mo_goesOut 6 none 13 [(0, .inr (some (0, 0, 0))), (1, .inl v1), (2, .inl v2), (3, .inl v3), (4, .inl s.1), (5, .inl s.2.1)] [] ids mG s.2.2 0 0 Rt) (hX0 : ∀ e, o = .inr e → pw l (px_R 1) y_Mo_goesOut c_Mo_goesOut 6 none 68 [(0, .inr (some (0, 0, 0))), (1, .inl v1), (4, .inl e.1)] [] ids mG e.2 0 0 Rt) : pw l (px_R 1) y_Mo_goesOut c_Mo_goesOut 6 none 62 [(0, .inr (some (0, 0, 0))), (1, .inl v1), (2, .inl v2), (3, .inl v3), (4, .inl v4), (5, .inl v5)] [] ids mG σ 0 0 Rt := by
  unfold Mo_goesOut_n62 at h
  refine pw_iinc (q := 5) (v := (v5 + 1)) (L' := [(5, .inl (v5 + 1)), (0, .inr (some (0, 0, 0))), (1, .inl v1), (2, .inl v2), (3, .inl v3), (4, .inl v4)]) (px_at td_Mo_goesOut 40 rfl) rfl rfl (by decide) rfl ?_
  refine pw_goto 13 (px_at td_Mo_goesOut 41 rfl) (by decide) ?_
  refine pw_L [(0, .inr (some (0, 0, 0))), (1, .inl v1), (2, .inl v2), (3, .inl v3), (4, .inl v4), (5, .inl (v5 + 1))] [1, 2, 3, 4, 5, 0] rfl ?_
  exact hC (v4, (v5 + 1), σ) (Option.some.inj h).symm
def Mo_goesOut_n13 (σ : pxS) (v1 : Int32) (v2 : Int32) (v3 : Int32) (v4 : Int32) (v5 : Int32) : Option ((Int32 × Int32 × pxS) ⊕ (Int32 × pxS)) :=
  (if v3 ≤ v5 then some (.inr (v4, σ)) else px_gd ((v1 + 1) + v5) 308 ((if (σ (1, 28, 0) ((v1 + 1) + v5).toNatClampNeg) = v2 then Mo_goesOut_n62 σ v1 v2 v3 v4 v5 else px_gd ((v1 + 1) + v5) 308 (px_gd ((v1 + 1) + v4) 308 (px_l (px_up σ (1, 28, 0) ((v1 + 1) + v4).toNatClampNeg (σ (1, 28, 0) ((v1 + 1) + v5).toNatClampNeg)) fun σ5 =>
  Mo_goesOut_n62 σ5 v1 v2 v3 (v4 + 1) v5)))))
set_option maxRecDepth 100000 in
theorem Mo_goesOut_n13_l {l : Launch} {ids : List pxI} {Rt : Option pxV → List pxI → pxG → pxS → Prop} {σ : pxS} {v1 : Int32} {v2 : Int32} {v3 : Int32} {v4 : Int32} {v5 : Int32} {o : (Int32 × Int32 × pxS) ⊕ (Int32 × pxS)} (h : Mo_goesOut_n13 σ v1 v2 v3 v4 v5 = some o) (hC : ∀ s, o = .inl s → pw l (px_R 1) y_Mo_goesOut c_Mo_goesOut 6 none 13 [(0, .inr (some (0, 0, 0))), (1, .inl v1), (2, .inl v2), (3, .inl v3), (4, .inl s.1), (5, .inl s.2.1)] [] ids mG s.2.2 0 0 Rt) (hX0 : ∀ e, o = .inr e → pw l (px_R 1) y_Mo_goesOut c_Mo_goesOut 6 none 68 [(0, .inr (some (0, 0, 0))), (1, .inl v1), (4, .inl e.1)] [] ids mG e.2 0 0 Rt) : pw l (px_R 1) y_Mo_goesOut c_Mo_goesOut 6 none 13 [(0, .inr (some (0, 0, 0))), (1, .inl v1), (2, .inl v2), (3, .inl v3), (4, .inl v4), (5, .inl v5)] [] ids mG σ 0 0 Rt := by
  unfold Mo_goesOut_n13 at h
  refine pw_iload 5 (px_at td_Mo_goesOut 9 rfl) rfl ?_
  refine pw_iload_n 3 (px_at td_Mo_goesOut 10 rfl) rfl rfl ?_
  rcases px_ite h with ⟨hc7, h⟩ | ⟨hc7, h⟩
  · refine pw_icmp_ge 68 (px_at td_Mo_goesOut 11 rfl) (by decide) (fun _ => ?_) (fun hn => absurd hc7 hn)
    refine pw_L [(0, .inr (some (0, 0, 0))), (1, .inl v1), (4, .inl v4)] [0, 1, 4] rfl ?_
    exact hX0 (v4, σ) (Option.some.inj h).symm
  · refine pw_icmp_ge 68 (px_at td_Mo_goesOut 11 rfl) (by decide) (fun hn => absurd hn hc7) (fun _ => ?_)
    refine pw_aload_n 0 (px_at td_Mo_goesOut 12 rfl) rfl rfl ?_
    refine pw_getf (v := .inr (some (1, 28, 0))) (px_at td_Mo_goesOut 13 rfl) lf_Mo_63 rfl rfl rfl ?_
    refine pw_iload_n 1 (px_at td_Mo_goesOut 14 rfl) rfl rfl ?_
    refine pw_iconst (v := 1) (px_at td_Mo_goesOut 15 rfl) (by decide) ?_
    refine pw_iadd (px_at td_Mo_goesOut 16 rfl) ?_
    refine pw_iload 5 (px_at td_Mo_goesOut 17 rfl) rfl ?_
    refine pw_iadd (px_at td_Mo_goesOut 18 rfl) ?_
    obtain ⟨hi2, h⟩ := px_gd_e h
    refine pw_ial (px_at td_Mo_goesOut 19 rfl) rfl hi2 rfl ?_
    refine pw_iload_n 2 (px_at td_Mo_goesOut 20 rfl) rfl rfl ?_
    rcases px_ite h with ⟨hc6, h⟩ | ⟨hc6, h⟩
    · refine pw_icmp_ne 37 (px_at td_Mo_goesOut 21 rfl) (by decide) (fun hn => absurd hc6 hn) (fun _ => ?_)
      refine pw_goto 62 (px_at td_Mo_goesOut 22 rfl) (by decide) ?_
      exact Mo_goesOut_n62_l h hC hX0
    · refine pw_icmp_ne 37 (px_at td_Mo_goesOut 21 rfl) (by decide) (fun _ => ?_) (fun hn => absurd hn hc6)
      refine pw_aload_n 0 (px_at td_Mo_goesOut 23 rfl) rfl rfl ?_
      refine pw_getf (v := .inr (some (1, 28, 0))) (px_at td_Mo_goesOut 24 rfl) lf_Mo_63 rfl rfl rfl ?_
      refine pw_iload_n 1 (px_at td_Mo_goesOut 25 rfl) rfl rfl ?_
      refine pw_iconst (v := 1) (px_at td_Mo_goesOut 26 rfl) (by decide) ?_
      refine pw_iadd (px_at td_Mo_goesOut 27 rfl) ?_
      refine pw_iload 4 (px_at td_Mo_goesOut 28 rfl) rfl ?_
      refine pw_iadd (px_at td_Mo_goesOut 29 rfl) ?_
      refine pw_aload_n 0 (px_at td_Mo_goesOut 30 rfl) rfl rfl ?_
      refine pw_getf (v := .inr (some (1, 28, 0))) (px_at td_Mo_goesOut 31 rfl) lf_Mo_63 rfl rfl rfl ?_
      refine pw_iload_n 1 (px_at td_Mo_goesOut 32 rfl) rfl rfl ?_
      refine pw_iconst (v := 1) (px_at td_Mo_goesOut 33 rfl) (by decide) ?_
      refine pw_iadd (px_at td_Mo_goesOut 34 rfl) ?_
      refine pw_iload 5 (px_at td_Mo_goesOut 35 rfl) rfl ?_
      refine pw_iadd (px_at td_Mo_goesOut 36 rfl) ?_
      obtain ⟨hi3, h⟩ := px_gd_e h
      refine pw_ial (px_at td_Mo_goesOut 37 rfl) rfl hi3 rfl ?_
      obtain ⟨hi4, h⟩ := px_gd_e h
      obtain ⟨σ5, hσ5, h⟩ := px_l_e h
      refine pw_ias (px_at td_Mo_goesOut 38 rfl) rfl hi4 rfl hσ5 ?_
      refine pw_iinc (q := 4) (v := (v4 + 1)) (L' := [(4, .inl (v4 + 1)), (0, .inr (some (0, 0, 0))), (1, .inl v1), (2, .inl v2), (3, .inl v3), (5, .inl v5)]) (px_at td_Mo_goesOut 39 rfl) rfl rfl (by decide) rfl ?_
      refine pw_L [(0, .inr (some (0, 0, 0))), (1, .inl v1), (2, .inl v2), (3, .inl v3), (4, .inl (v4 + 1)), (5, .inl v5)] [1, 2, 3, 4, 0, 5] rfl ?_
      exact Mo_goesOut_n62_l h hC hX0
def Mo_goesOut_L13 (v1 : Int32) (v2 : Int32) (v3 : Int32) : (Int32 × Int32 × pxS) → Option ((Int32 × Int32 × pxS) ⊕ (Int32 × pxS)) := fun s => Mo_goesOut_n13 s.2.2 v1 v2 v3 s.1 s.2.1
set_option maxRecDepth 100000 in
theorem Mo_goesOut_L13_l {l : Launch} {ids : List pxI} {Rt : Option pxV → List pxI → pxG → pxS → Prop} {v1 : Int32} {v2 : Int32} {v3 : Int32} {n : Nat} {s : Int32 × Int32 × pxS} {e : Int32 × pxS} (h : px_it (Mo_goesOut_L13 v1 v2 v3) n s = some e) (hX0 : pw l (px_R 1) y_Mo_goesOut c_Mo_goesOut 6 none 68 [(0, .inr (some (0, 0, 0))), (1, .inl v1), (4, .inl e.1)] [] ids mG e.2 0 0 Rt) : pw l (px_R 1) y_Mo_goesOut c_Mo_goesOut 6 none 13 [(0, .inr (some (0, 0, 0))), (1, .inl v1), (2, .inl v2), (3, .inl v3), (4, .inl s.1), (5, .inl s.2.1)] [] ids mG s.2.2 0 0 Rt := by
  refine px_it_rule (f := Mo_goesOut_L13 v1 v2 v3) (C := fun s => pw l (px_R 1) y_Mo_goesOut c_Mo_goesOut 6 none 13 [(0, .inr (some (0, 0, 0))), (1, .inl v1), (2, .inl v2), (3, .inl v3), (4, .inl s.1), (5, .inl s.2.1)] [] ids mG s.2.2 0 0 Rt) (X := fun e => (pw l (px_R 1) y_Mo_goesOut c_Mo_goesOut 6 none 68 [(0, .inr (some (0, 0, 0))), (1, .inl v1), (4, .inl e.1)] [] ids mG e.2 0 0 Rt)) ?_ ?_ n s e h hX0
  · intro s s1 hf hC
    exact Mo_goesOut_n13_l hf (fun s2 hs => by cases hs; exact hC) (fun e he => by cases he)
  · intro s e hf hX
    exact Mo_goesOut_n13_l hf (fun s2 hs => by cases hs) (fun e1 he => by cases he; exact hX)
def F_Mo_goesOut (σ : pxS) (v1 : Int32) (v2 : Int32) : Option (pxS) :=
  px_gd v1 308 (px_b1 (px_it (Mo_goesOut_L13 v1 v2 (σ (1, 28, 0) v1.toNatClampNeg)) px_N (0, 0, σ)) fun e8 =>
  px_gd v1 308 (px_l (px_up e8.2 (1, 28, 0) v1.toNatClampNeg e8.1) fun σ10 =>
  some σ10))
set_option maxRecDepth 100000 in
theorem e_Mo_goesOut {l : Launch} {ids : List pxI} {Rt : Option pxV → List pxI → pxG → pxS → Prop} {σ : pxS} {v1 : Int32} {v2 : Int32} {res : pxS} (h : F_Mo_goesOut σ v1 v2 = some res) (hR : Rt none ids mG res) : pw l (px_R 1) y_Mo_goesOut c_Mo_goesOut 6 none 0 [(0, .inr (some (0, 0, 0))), (1, .inl v1), (2, .inl v2)] [] ids mG σ 0 0 Rt := by
  unfold F_Mo_goesOut at h
  refine pw_aload_n 0 (px_at td_Mo_goesOut 0 rfl) rfl rfl ?_
  refine pw_getf (v := .inr (some (1, 28, 0))) (px_at td_Mo_goesOut 1 rfl) lf_Mo_63 rfl rfl rfl ?_
  refine pw_iload_n 1 (px_at td_Mo_goesOut 2 rfl) rfl rfl ?_
  obtain ⟨hi1, h⟩ := px_gd_e h
  refine pw_ial (px_at td_Mo_goesOut 3 rfl) rfl hi1 rfl ?_
  refine pw_istore_n (L' := [(3, .inl (σ (1, 28, 0) v1.toNatClampNeg)), (0, .inr (some (0, 0, 0))), (1, .inl v1), (2, .inl v2)]) (px_at td_Mo_goesOut 4 rfl) rfl (by decide) rfl ?_
  refine pw_iconst (v := 0) (px_at td_Mo_goesOut 5 rfl) (by decide) ?_
  refine pw_istore (L' := [(4, .inl 0), (3, .inl (σ (1, 28, 0) v1.toNatClampNeg)), (0, .inr (some (0, 0, 0))), (1, .inl v1), (2, .inl v2)]) (px_at td_Mo_goesOut 6 rfl) (by decide) rfl ?_
  refine pw_iconst (v := 0) (px_at td_Mo_goesOut 7 rfl) (by decide) ?_
  refine pw_istore (L' := [(5, .inl 0), (4, .inl 0), (3, .inl (σ (1, 28, 0) v1.toNatClampNeg)), (0, .inr (some (0, 0, 0))), (1, .inl v1), (2, .inl v2)]) (px_at td_Mo_goesOut 8 rfl) (by decide) rfl ?_
  obtain ⟨e8, he8, h⟩ := px_b1_e h
  refine pw_L [(0, .inr (some (0, 0, 0))), (1, .inl v1), (2, .inl v2), (3, .inl (σ (1, 28, 0) v1.toNatClampNeg)), (4, .inl 0), (5, .inl 0)] [3, 4, 5, 2, 1, 0] rfl ?_
  refine Mo_goesOut_L13_l he8 ?_
  refine pw_aload_n 0 (px_at td_Mo_goesOut 42 rfl) rfl rfl ?_
  refine pw_getf (v := .inr (some (1, 28, 0))) (px_at td_Mo_goesOut 43 rfl) lf_Mo_63 rfl rfl rfl ?_
  refine pw_iload_n 1 (px_at td_Mo_goesOut 44 rfl) rfl rfl ?_
  refine pw_iload 2 (px_at td_Mo_goesOut 45 rfl) rfl ?_
  obtain ⟨hi9, h⟩ := px_gd_e h
  obtain ⟨σ10, hσ10, h⟩ := px_l_e h
  refine pw_ias (px_at td_Mo_goesOut 46 rfl) rfl hi9 rfl hσ10 ?_
  obtain rfl := Option.some.inj h
  exact pw_vret (px_at td_Mo_goesOut 47 rfl) rfl (Nat.le_refl 0) (Nat.le_refl 0) hR
theorem k_Mo_goesOut {l : Launch} {ids : List pxI} {σ : pxS} {v1 : Int32} {v2 : Int32} {res : pxS} (h : F_Mo_goesOut σ v1 v2 = some res) : pm l y_Mo_goesOut c_Mo_goesOut 6 none (px_R 1) [.inr (some (0, 0, 0)), .inl v1, .inl v2] ids mG σ (px_r none ids mG res) :=
  pm_ofF (by decide +kernel) (Nat.le_of_ble_eq_true rfl) (e_Mo_goesOut h ⟨rfl, rfl, rfl, rfl⟩)
/-! Mo_comesTo -/
def F_Mo_comesTo (σ : pxS) (v1 : Int32) (v2 : Int32) : Option (pxS) :=
  px_gd v1 308 (px_gd ((v1 + 1) + (σ (1, 28, 0) v1.toNatClampNeg)) 308 (px_l (px_up σ (1, 28, 0) ((v1 + 1) + (σ (1, 28, 0) v1.toNatClampNeg)).toNatClampNeg v2) fun σ3 =>
  px_gd v1 308 (px_gd v1 308 (px_l (px_up σ3 (1, 28, 0) v1.toNatClampNeg ((σ3 (1, 28, 0) v1.toNatClampNeg) + 1)) fun σ6 =>
  some σ6))))
set_option maxRecDepth 100000 in
theorem e_Mo_comesTo {l : Launch} {ids : List pxI} {Rt : Option pxV → List pxI → pxG → pxS → Prop} {σ : pxS} {v1 : Int32} {v2 : Int32} {res : pxS} (h : F_Mo_comesTo σ v1 v2 = some res) (hR : Rt none ids mG res) : pw l (px_R 1) y_Mo_comesTo c_Mo_comesTo 3 none 0 [(0, .inr (some (0, 0, 0))), (1, .inl v1), (2, .inl v2)] [] ids mG σ 0 0 Rt := by
  unfold F_Mo_comesTo at h
  refine pw_aload_n 0 (px_at td_Mo_comesTo 0 rfl) rfl rfl ?_
  refine pw_getf (v := .inr (some (1, 28, 0))) (px_at td_Mo_comesTo 1 rfl) lf_Mo_63 rfl rfl rfl ?_
  refine pw_iload_n 1 (px_at td_Mo_comesTo 2 rfl) rfl rfl ?_
  refine pw_iconst (v := 1) (px_at td_Mo_comesTo 3 rfl) (by decide) ?_
  refine pw_iadd (px_at td_Mo_comesTo 4 rfl) ?_
  refine pw_aload_n 0 (px_at td_Mo_comesTo 5 rfl) rfl rfl ?_
  refine pw_getf (v := .inr (some (1, 28, 0))) (px_at td_Mo_comesTo 6 rfl) lf_Mo_63 rfl rfl rfl ?_
  refine pw_iload_n 1 (px_at td_Mo_comesTo 7 rfl) rfl rfl ?_
  obtain ⟨hi1, h⟩ := px_gd_e h
  refine pw_ial (px_at td_Mo_comesTo 8 rfl) rfl hi1 rfl ?_
  refine pw_iadd (px_at td_Mo_comesTo 9 rfl) ?_
  refine pw_iload_n 2 (px_at td_Mo_comesTo 10 rfl) rfl rfl ?_
  obtain ⟨hi2, h⟩ := px_gd_e h
  obtain ⟨σ3, hσ3, h⟩ := px_l_e h
  refine pw_ias (px_at td_Mo_comesTo 11 rfl) rfl hi2 rfl hσ3 ?_
  refine pw_aload_n 0 (px_at td_Mo_comesTo 12 rfl) rfl rfl ?_
  refine pw_getf (v := .inr (some (1, 28, 0))) (px_at td_Mo_comesTo 13 rfl) lf_Mo_63 rfl rfl rfl ?_
  refine pw_iload_n 1 (px_at td_Mo_comesTo 14 rfl) rfl rfl ?_
  refine pw_dup2 (px_at td_Mo_comesTo 15 rfl) ?_
  obtain ⟨hi4, h⟩ := px_gd_e h
  refine pw_ial (px_at td_Mo_comesTo 16 rfl) rfl hi4 rfl ?_
  refine pw_iconst (v := 1) (px_at td_Mo_comesTo 17 rfl) (by decide) ?_
  refine pw_iadd (px_at td_Mo_comesTo 18 rfl) ?_
  obtain ⟨hi5, h⟩ := px_gd_e h
  obtain ⟨σ6, hσ6, h⟩ := px_l_e h
  refine pw_ias (px_at td_Mo_comesTo 19 rfl) rfl hi5 rfl hσ6 ?_
  obtain rfl := Option.some.inj h
  exact pw_vret (px_at td_Mo_comesTo 20 rfl) rfl (Nat.le_refl 0) (Nat.le_refl 0) hR
theorem k_Mo_comesTo {l : Launch} {ids : List pxI} {σ : pxS} {v1 : Int32} {v2 : Int32} {res : pxS} (h : F_Mo_comesTo σ v1 v2 = some res) : pm l y_Mo_comesTo c_Mo_comesTo 3 none (px_R 1) [.inr (some (0, 0, 0)), .inl v1, .inl v2] ids mG σ (px_r none ids mG res) :=
  pm_ofF (by decide +kernel) (Nat.le_of_ble_eq_true rfl) (e_Mo_comesTo h ⟨rfl, rfl, rfl, rfl⟩)
/-! Mo_isLive -/
def Mo_isLive_n37 (σ : pxS)  : Option (Int32) :=
  some (0)
set_option maxRecDepth 100000 in
theorem Mo_isLive_n37_l {l : Launch} {ids : List pxI} {Rt : Option pxV → List pxI → pxG → pxS → Prop} {σ : pxS}  {res : Int32} (h : Mo_isLive_n37 σ  = some res) (hR : Rt (some (.inl res)) ids mG σ) : pw l (px_R 2) y_Mo_isLive c_Mo_isLive 2 (some .boolean) 37 [] [] ids mG σ 0 0 Rt := by
  unfold Mo_isLive_n37 at h
  refine pw_iconst (v := 0) (px_at td_Mo_isLive 21 rfl) (by decide) ?_
  obtain rfl := Option.some.inj h
  exact pw_zret (px_at td_Mo_isLive 22 rfl) rfl (by decide) (Nat.le_refl 0) (Nat.le_refl 0) hR
def Mo_isLive_n18 (σ : pxS) (v1 : Int32) : Option (Int32) :=
  px_gd ((13 * v1) + 8) 308 ((if (σ (1, 28, 0) ((13 * v1) + 8).toNatClampNeg) = 0 then some (1) else Mo_isLive_n37 σ ))
set_option maxRecDepth 100000 in
theorem Mo_isLive_n18_l {l : Launch} {ids : List pxI} {Rt : Option pxV → List pxI → pxG → pxS → Prop} {σ : pxS} {v1 : Int32} {res : Int32} (h : Mo_isLive_n18 σ v1 = some res) (hR : Rt (some (.inl res)) ids mG σ) : pw l (px_R 2) y_Mo_isLive c_Mo_isLive 2 (some .boolean) 18 [(0, .inr (some (0, 0, 0))), (1, .inl v1)] [] ids mG σ 0 0 Rt := by
  unfold Mo_isLive_n18 at h
  refine pw_aload_n 0 (px_at td_Mo_isLive 10 rfl) rfl rfl ?_
  refine pw_getf (v := .inr (some (1, 28, 0))) (px_at td_Mo_isLive 11 rfl) lf_Mo_63 rfl rfl rfl ?_
  refine pw_bipush (v := 13) (px_at td_Mo_isLive 12 rfl) (by decide) ?_
  refine pw_iload_n 1 (px_at td_Mo_isLive 13 rfl) rfl rfl ?_
  refine pw_imul (px_at td_Mo_isLive 14 rfl) ?_
  refine pw_bipush (v := 8) (px_at td_Mo_isLive 15 rfl) (by decide) ?_
  refine pw_iadd (px_at td_Mo_isLive 16 rfl) ?_
  obtain ⟨hi2, h⟩ := px_gd_e h
  refine pw_ial (px_at td_Mo_isLive 17 rfl) rfl hi2 rfl ?_
  rcases px_ite h with ⟨hc3, h⟩ | ⟨hc3, h⟩
  · refine pw_if_ne 37 (px_at td_Mo_isLive 18 rfl) (by decide) (fun hn => absurd hc3 hn) (fun _ => ?_)
    refine pw_iconst (v := 1) (px_at td_Mo_isLive 19 rfl) (by decide) ?_
    refine pw_goto 38 (px_at td_Mo_isLive 20 rfl) (by decide) ?_
    obtain rfl := Option.some.inj h
    exact pw_zret (px_at td_Mo_isLive 22 rfl) rfl (by decide) (Nat.le_refl 0) (Nat.le_refl 0) hR
  · refine pw_if_ne 37 (px_at td_Mo_isLive 18 rfl) (by decide) (fun _ => ?_) (fun hn => absurd hn hc3)
    refine pw_L [] [] rfl ?_
    exact Mo_isLive_n37_l h hR
def F_Mo_isLive (σ : pxS) (v1 : Int32) : Option (Int32) :=
  px_b1 (F_Mo_state σ v1) fun r1 =>
  (if r1 = 2 then Mo_isLive_n18 σ v1 else px_b1 (F_Mo_state σ v1) fun r4 =>
  (if r4 = 3 then Mo_isLive_n18 σ v1 else Mo_isLive_n37 σ ))
set_option maxRecDepth 100000 in
theorem e_Mo_isLive {l : Launch} {ids : List pxI} {Rt : Option pxV → List pxI → pxG → pxS → Prop} {σ : pxS} {v1 : Int32} {res : Int32} (h : F_Mo_isLive σ v1 = some res) (hR : Rt (some (.inl res)) ids mG σ) : pw l (px_R 2) y_Mo_isLive c_Mo_isLive 2 (some .boolean) 0 [(0, .inr (some (0, 0, 0))), (1, .inl v1)] [] ids mG σ 0 0 Rt := by
  unfold F_Mo_isLive at h
  refine pw_aload_n 0 (px_at td_Mo_isLive 0 rfl) rfl rfl ?_
  refine pw_iload_n 1 (px_at td_Mo_isLive 1 rfl) rfl rfl ?_
  obtain ⟨r1, hk1, h⟩ := px_b1_e h
  refine pw_cV1 (0, 0, 0) [.inl v1] [] (px_at td_Mo_isLive 2 rfl) lV_Mo_230 rfl rfl rfl (Nat.le_of_ble_eq_true rfl) (by decide) (k_Mo_state hk1) ?_
  refine pw_iconst (v := 2) (px_at td_Mo_isLive 3 rfl) (by decide) ?_
  rcases px_ite h with ⟨hc6, h⟩ | ⟨hc6, h⟩
  · refine pw_icmp_eq 18 (px_at td_Mo_isLive 4 rfl) (by decide) (fun _ => ?_) (fun hn => absurd hc6 hn)
    exact Mo_isLive_n18_l h hR
  · refine pw_icmp_eq 18 (px_at td_Mo_isLive 4 rfl) (by decide) (fun hn => absurd hn hc6) (fun _ => ?_)
    refine pw_aload_n 0 (px_at td_Mo_isLive 5 rfl) rfl rfl ?_
    refine pw_iload_n 1 (px_at td_Mo_isLive 6 rfl) rfl rfl ?_
    obtain ⟨r4, hk4, h⟩ := px_b1_e h
    refine pw_cV1 (0, 0, 0) [.inl v1] [] (px_at td_Mo_isLive 7 rfl) lV_Mo_230 rfl rfl rfl (Nat.le_of_ble_eq_true rfl) (by decide) (k_Mo_state hk4) ?_
    refine pw_iconst (v := 3) (px_at td_Mo_isLive 8 rfl) (by decide) ?_
    rcases px_ite h with ⟨hc5, h⟩ | ⟨hc5, h⟩
    · refine pw_icmp_ne 37 (px_at td_Mo_isLive 9 rfl) (by decide) (fun hn => absurd hc5 hn) (fun _ => ?_)
      exact Mo_isLive_n18_l h hR
    · refine pw_icmp_ne 37 (px_at td_Mo_isLive 9 rfl) (by decide) (fun _ => ?_) (fun hn => absurd hn hc5)
      refine pw_L [] [] rfl ?_
      exact Mo_isLive_n37_l h hR
theorem k_Mo_isLive {l : Launch} {ids : List pxI} {σ : pxS} {v1 : Int32} {res : Int32} (h : F_Mo_isLive σ v1 = some res) : pm l y_Mo_isLive c_Mo_isLive 2 (some .boolean) (px_R 2) [.inr (some (0, 0, 0)), .inl v1] ids mG σ (px_r (some (.inl res)) ids mG σ) :=
  pm_ofF (by decide +kernel) (Nat.le_of_ble_eq_true rfl) (e_Mo_isLive h ⟨rfl, rfl, rfl, rfl⟩)
/-! Mo_latestOf -/
def Mo_latestOf_n63 (σ : pxS) (v1 : Int32) (v2 : Int32) (v3 : Int32) : Option ((Int32 × Int32) ⊕ (Int32)) :=
  some (.inl (v2, (v3 + 1)))
set_option maxRecDepth 100000 in
theorem Mo_latestOf_n63_l {l : Launch} {ids : List pxI} {Rt : Option pxV → List pxI → pxG → pxS → Prop} {σ : pxS} {v1 : Int32} {v2 : Int32} {v3 : Int32} {o : (Int32 × Int32) ⊕ (Int32)} (h : Mo_latestOf_n63 σ v1 v2 v3 = some o) (hC : ∀ s, o = .inl s → pw l (px_R 3) y_Mo_latestOf c_Mo_latestOf 4 (some .int) 4 [(0, .inr (some (0, 0, 0))), (1, .inl v1), (2, .inl s.1), (3, .inl s.2)] [] ids mG σ 0 0 Rt) (hX0 : ∀ e, o = .inr e → pw l (px_R 3) y_Mo_latestOf c_Mo_latestOf 4 (some .int) 69 [(2, .inl e)] [] ids mG σ 0 0 Rt) : pw l (px_R 3) y_Mo_latestOf c_Mo_latestOf 4 (some .int) 63 [(0, .inr (some (0, 0, 0))), (1, .inl v1), (2, .inl v2), (3, .inl v3)] [] ids mG σ 0 0 Rt := by
  unfold Mo_latestOf_n63 at h
  refine pw_iinc (q := 3) (v := (v3 + 1)) (L' := [(3, .inl (v3 + 1)), (0, .inr (some (0, 0, 0))), (1, .inl v1), (2, .inl v2)]) (px_at td_Mo_latestOf 41 rfl) rfl rfl (by decide) rfl ?_
  refine pw_goto 4 (px_at td_Mo_latestOf 42 rfl) (by decide) ?_
  refine pw_L [(0, .inr (some (0, 0, 0))), (1, .inl v1), (2, .inl v2), (3, .inl (v3 + 1))] [1, 2, 3, 0] rfl ?_
  exact hC (v2, (v3 + 1)) (Option.some.inj h).symm
def Mo_latestOf_n61 (σ : pxS) (v1 : Int32) (v3 : Int32) : Option ((Int32 × Int32) ⊕ (Int32)) :=
  Mo_latestOf_n63 σ v1 v3 v3
set_option maxRecDepth 100000 in
theorem Mo_latestOf_n61_l {l : Launch} {ids : List pxI} {Rt : Option pxV → List pxI → pxG → pxS → Prop} {σ : pxS} {v1 : Int32} {v3 : Int32} {o : (Int32 × Int32) ⊕ (Int32)} (h : Mo_latestOf_n61 σ v1 v3 = some o) (hC : ∀ s, o = .inl s → pw l (px_R 3) y_Mo_latestOf c_Mo_latestOf 4 (some .int) 4 [(0, .inr (some (0, 0, 0))), (1, .inl v1), (2, .inl s.1), (3, .inl s.2)] [] ids mG σ 0 0 Rt) (hX0 : ∀ e, o = .inr e → pw l (px_R 3) y_Mo_latestOf c_Mo_latestOf 4 (some .int) 69 [(2, .inl e)] [] ids mG σ 0 0 Rt) : pw l (px_R 3) y_Mo_latestOf c_Mo_latestOf 4 (some .int) 61 [(0, .inr (some (0, 0, 0))), (1, .inl v1), (3, .inl v3)] [] ids mG σ 0 0 Rt := by
  unfold Mo_latestOf_n61 at h
  refine pw_iload_n 2 (px_at td_Mo_latestOf 39 rfl) rfl rfl ?_
  refine pw_istore_n (L' := [(2, .inl v3), (0, .inr (some (0, 0, 0))), (1, .inl v1), (3, .inl v3)]) (px_at td_Mo_latestOf 40 rfl) rfl (by decide) rfl ?_
  refine pw_L [(0, .inr (some (0, 0, 0))), (1, .inl v1), (2, .inl v3), (3, .inl v3)] [1, 2, 0, 3] rfl ?_
  exact Mo_latestOf_n63_l h hC hX0
def Mo_latestOf_n4 (σ : pxS) (v1 : Int32) (v2 : Int32) (v3 : Int32) : Option ((Int32 × Int32) ⊕ (Int32)) :=
  px_b1 (F_Mo_rails σ ) fun r1 =>
  (if r1 ≤ v3 then some (.inr v2) else (if ((v1 >>> (v3 &&& 31)) &&& 1) = 0 then Mo_latestOf_n63 σ v1 v2 v3 else px_b1 (F_Mo_isLive σ v3) fun r2 =>
  (if r2 = 0 then Mo_latestOf_n63 σ v1 v2 v3 else (if v2 = (-1) then Mo_latestOf_n61 σ v1 v3 else px_gd ((13 * v3) + 4) 308 (px_gd ((13 * v2) + 4) 308 ((if (σ (1, 28, 0) ((13 * v3) + 4).toNatClampNeg) < (σ (1, 28, 0) ((13 * v2) + 4).toNatClampNeg) then Mo_latestOf_n63 σ v1 v2 v3 else Mo_latestOf_n61 σ v1 v3)))))))
set_option maxRecDepth 100000 in
theorem Mo_latestOf_n4_l {l : Launch} {ids : List pxI} {Rt : Option pxV → List pxI → pxG → pxS → Prop} {σ : pxS} {v1 : Int32} {v2 : Int32} {v3 : Int32} {o : (Int32 × Int32) ⊕ (Int32)} (h : Mo_latestOf_n4 σ v1 v2 v3 = some o) (hC : ∀ s, o = .inl s → pw l (px_R 3) y_Mo_latestOf c_Mo_latestOf 4 (some .int) 4 [(0, .inr (some (0, 0, 0))), (1, .inl v1), (2, .inl s.1), (3, .inl s.2)] [] ids mG σ 0 0 Rt) (hX0 : ∀ e, o = .inr e → pw l (px_R 3) y_Mo_latestOf c_Mo_latestOf 4 (some .int) 69 [(2, .inl e)] [] ids mG σ 0 0 Rt) : pw l (px_R 3) y_Mo_latestOf c_Mo_latestOf 4 (some .int) 4 [(0, .inr (some (0, 0, 0))), (1, .inl v1), (2, .inl v2), (3, .inl v3)] [] ids mG σ 0 0 Rt := by
  unfold Mo_latestOf_n4 at h
  refine pw_iload_n 3 (px_at td_Mo_latestOf 4 rfl) rfl rfl ?_
  refine pw_aload_n 0 (px_at td_Mo_latestOf 5 rfl) rfl rfl ?_
  obtain ⟨r1, hk1, h⟩ := px_b1_e h
  refine pw_cV1 (0, 0, 0) [] [.inl v3] (px_at td_Mo_latestOf 6 rfl) lV_Mo_223 rfl rfl rfl (Nat.le_of_ble_eq_true rfl) (by decide) (k_Mo_rails hk1) ?_
  rcases px_ite h with ⟨hc9, h⟩ | ⟨hc9, h⟩
  · refine pw_icmp_ge 69 (px_at td_Mo_latestOf 7 rfl) (by decide) (fun _ => ?_) (fun hn => absurd hc9 hn)
    refine pw_L [(2, .inl v2)] [2] rfl ?_
    exact hX0 v2 (Option.some.inj h).symm
  · refine pw_icmp_ge 69 (px_at td_Mo_latestOf 7 rfl) (by decide) (fun hn => absurd hn hc9) (fun _ => ?_)
    refine pw_iload_n 1 (px_at td_Mo_latestOf 8 rfl) rfl rfl ?_
    refine pw_iload_n 3 (px_at td_Mo_latestOf 9 rfl) rfl rfl ?_
    refine pw_ishr (px_at td_Mo_latestOf 10 rfl) ?_
    refine pw_iconst (v := 1) (px_at td_Mo_latestOf 11 rfl) (by decide) ?_
    refine pw_iand (px_at td_Mo_latestOf 12 rfl) ?_
    rcases px_ite h with ⟨hc8, h⟩ | ⟨hc8, h⟩
    · refine pw_if_eq 63 (px_at td_Mo_latestOf 13 rfl) (by decide) (fun _ => ?_) (fun hn => absurd hc8 hn)
      exact Mo_latestOf_n63_l h hC hX0
    · refine pw_if_eq 63 (px_at td_Mo_latestOf 13 rfl) (by decide) (fun hn => absurd hn hc8) (fun _ => ?_)
      refine pw_aload_n 0 (px_at td_Mo_latestOf 14 rfl) rfl rfl ?_
      refine pw_iload_n 3 (px_at td_Mo_latestOf 15 rfl) rfl rfl ?_
      obtain ⟨r2, hk2, h⟩ := px_b1_e h
      refine pw_cV1 (0, 0, 0) [.inl v3] [] (px_at td_Mo_latestOf 16 rfl) lV_Mo_233 rfl rfl rfl (Nat.le_of_ble_eq_true rfl) (by decide) (k_Mo_isLive hk2) ?_
      rcases px_ite h with ⟨hc7, h⟩ | ⟨hc7, h⟩
      · refine pw_if_ne 31 (px_at td_Mo_latestOf 17 rfl) (by decide) (fun hn => absurd hc7 hn) (fun _ => ?_)
        refine pw_goto 63 (px_at td_Mo_latestOf 18 rfl) (by decide) ?_
        exact Mo_latestOf_n63_l h hC hX0
      · refine pw_if_ne 31 (px_at td_Mo_latestOf 17 rfl) (by decide) (fun _ => ?_) (fun hn => absurd hn hc7)
        refine pw_iload_n 2 (px_at td_Mo_latestOf 19 rfl) rfl rfl ?_
        refine pw_iconst (v := (-1)) (px_at td_Mo_latestOf 20 rfl) (by decide) ?_
        rcases px_ite h with ⟨hc6, h⟩ | ⟨hc6, h⟩
        · refine pw_icmp_eq 61 (px_at td_Mo_latestOf 21 rfl) (by decide) (fun _ => ?_) (fun hn => absurd hc6 hn)
          refine pw_L [(0, .inr (some (0, 0, 0))), (1, .inl v1), (3, .inl v3)] [0, 1, 3] rfl ?_
          exact Mo_latestOf_n61_l h hC hX0
        · refine pw_icmp_eq 61 (px_at td_Mo_latestOf 21 rfl) (by decide) (fun hn => absurd hn hc6) (fun _ => ?_)
          refine pw_aload_n 0 (px_at td_Mo_latestOf 22 rfl) rfl rfl ?_
          refine pw_getf (v := .inr (some (1, 28, 0))) (px_at td_Mo_latestOf 23 rfl) lf_Mo_63 rfl rfl rfl ?_
          refine pw_bipush (v := 13) (px_at td_Mo_latestOf 24 rfl) (by decide) ?_
          refine pw_iload_n 3 (px_at td_Mo_latestOf 25 rfl) rfl rfl ?_
          refine pw_imul (px_at td_Mo_latestOf 26 rfl) ?_
          refine pw_iconst (v := 4) (px_at td_Mo_latestOf 27 rfl) (by decide) ?_
          refine pw_iadd (px_at td_Mo_latestOf 28 rfl) ?_
          obtain ⟨hi3, h⟩ := px_gd_e h
          refine pw_ial (px_at td_Mo_latestOf 29 rfl) rfl hi3 rfl ?_
          refine pw_aload_n 0 (px_at td_Mo_latestOf 30 rfl) rfl rfl ?_
          refine pw_getf (v := .inr (some (1, 28, 0))) (px_at td_Mo_latestOf 31 rfl) lf_Mo_63 rfl rfl rfl ?_
          refine pw_bipush (v := 13) (px_at td_Mo_latestOf 32 rfl) (by decide) ?_
          refine pw_iload_n 2 (px_at td_Mo_latestOf 33 rfl) rfl rfl ?_
          refine pw_imul (px_at td_Mo_latestOf 34 rfl) ?_
          refine pw_iconst (v := 4) (px_at td_Mo_latestOf 35 rfl) (by decide) ?_
          refine pw_iadd (px_at td_Mo_latestOf 36 rfl) ?_
          obtain ⟨hi4, h⟩ := px_gd_e h
          refine pw_ial (px_at td_Mo_latestOf 37 rfl) rfl hi4 rfl ?_
          rcases px_ite h with ⟨hc5, h⟩ | ⟨hc5, h⟩
          · refine pw_icmp_lt 63 (px_at td_Mo_latestOf 38 rfl) (by decide) (fun _ => ?_) (fun hn => absurd hc5 hn)
            exact Mo_latestOf_n63_l h hC hX0
          · refine pw_icmp_lt 63 (px_at td_Mo_latestOf 38 rfl) (by decide) (fun hn => absurd hn hc5) (fun _ => ?_)
            refine pw_L [(0, .inr (some (0, 0, 0))), (1, .inl v1), (3, .inl v3)] [0, 1, 3] rfl ?_
            exact Mo_latestOf_n61_l h hC hX0
def Mo_latestOf_L4 (σ : pxS) (v1 : Int32) : (Int32 × Int32) → Option ((Int32 × Int32) ⊕ (Int32)) := fun s => Mo_latestOf_n4 σ v1 s.1 s.2
set_option maxRecDepth 100000 in
theorem Mo_latestOf_L4_l {l : Launch} {ids : List pxI} {Rt : Option pxV → List pxI → pxG → pxS → Prop} {σ : pxS} {v1 : Int32} {n : Nat} {s : Int32 × Int32} {e : Int32} (h : px_it (Mo_latestOf_L4 σ v1) n s = some e) (hX0 : pw l (px_R 3) y_Mo_latestOf c_Mo_latestOf 4 (some .int) 69 [(2, .inl e)] [] ids mG σ 0 0 Rt) : pw l (px_R 3) y_Mo_latestOf c_Mo_latestOf 4 (some .int) 4 [(0, .inr (some (0, 0, 0))), (1, .inl v1), (2, .inl s.1), (3, .inl s.2)] [] ids mG σ 0 0 Rt := by
  refine px_it_rule (f := Mo_latestOf_L4 σ v1) (C := fun s => pw l (px_R 3) y_Mo_latestOf c_Mo_latestOf 4 (some .int) 4 [(0, .inr (some (0, 0, 0))), (1, .inl v1), (2, .inl s.1), (3, .inl s.2)] [] ids mG σ 0 0 Rt) (X := fun e => (pw l (px_R 3) y_Mo_latestOf c_Mo_latestOf 4 (some .int) 69 [(2, .inl e)] [] ids mG σ 0 0 Rt)) ?_ ?_ n s e h hX0
  · intro s s1 hf hC
    exact Mo_latestOf_n4_l hf (fun s2 hs => by cases hs; exact hC) (fun e he => by cases he)
  · intro s e hf hX
    exact Mo_latestOf_n4_l hf (fun s2 hs => by cases hs) (fun e1 he => by cases he; exact hX)
def F_Mo_latestOf (σ : pxS) (v1 : Int32) : Option (Int32) :=
  px_b1 (px_it (Mo_latestOf_L4 σ v1) px_N ((-1), 0)) fun e10 =>
  some (e10)
set_option maxRecDepth 100000 in
theorem e_Mo_latestOf {l : Launch} {ids : List pxI} {Rt : Option pxV → List pxI → pxG → pxS → Prop} {σ : pxS} {v1 : Int32} {res : Int32} (h : F_Mo_latestOf σ v1 = some res) (hR : Rt (some (.inl res)) ids mG σ) : pw l (px_R 3) y_Mo_latestOf c_Mo_latestOf 4 (some .int) 0 [(0, .inr (some (0, 0, 0))), (1, .inl v1)] [] ids mG σ 0 0 Rt := by
  unfold F_Mo_latestOf at h
  refine pw_iconst (v := (-1)) (px_at td_Mo_latestOf 0 rfl) (by decide) ?_
  refine pw_istore_n (L' := [(2, .inl (-1)), (0, .inr (some (0, 0, 0))), (1, .inl v1)]) (px_at td_Mo_latestOf 1 rfl) rfl (by decide) rfl ?_
  refine pw_iconst (v := 0) (px_at td_Mo_latestOf 2 rfl) (by decide) ?_
  refine pw_istore_n (L' := [(3, .inl 0), (2, .inl (-1)), (0, .inr (some (0, 0, 0))), (1, .inl v1)]) (px_at td_Mo_latestOf 3 rfl) rfl (by decide) rfl ?_
  obtain ⟨e10, he10, h⟩ := px_b1_e h
  refine pw_L [(0, .inr (some (0, 0, 0))), (1, .inl v1), (2, .inl (-1)), (3, .inl 0)] [2, 3, 1, 0] rfl ?_
  refine Mo_latestOf_L4_l he10 ?_
  refine pw_iload_n 0 (px_at td_Mo_latestOf 43 rfl) rfl rfl ?_
  obtain rfl := Option.some.inj h
  exact pw_iret (px_at td_Mo_latestOf 44 rfl) rfl (Nat.le_refl 0) (Nat.le_refl 0) hR
theorem k_Mo_latestOf {l : Launch} {ids : List pxI} {σ : pxS} {v1 : Int32} {res : Int32} (h : F_Mo_latestOf σ v1 = some res) : pm l y_Mo_latestOf c_Mo_latestOf 4 (some .int) (px_R 3) [.inr (some (0, 0, 0)), .inl v1] ids mG σ (px_r (some (.inl res)) ids mG σ) :=
  pm_ofF (by decide +kernel) (Nat.le_of_ble_eq_true rfl) (e_Mo_latestOf h ⟨rfl, rfl, rfl, rfl⟩)
/-! Mo_unwinds -/
def Mo_unwinds_n44 (σ : pxS) (v1 : Int32) (v2 : Int32) (v3 : Int32) : Option ((Int32 × pxS) ⊕ (pxS)) :=
  some (.inl ((v3 + 1), σ))
set_option maxRecDepth 100000 in
theorem Mo_unwinds_n44_l {l : Launch} {ids : List pxI} {Rt : Option pxV → List pxI → pxG → pxS → Prop} {σ : pxS} {v1 : Int32} {v2 : Int32} {v3 : Int32} {o : (Int32 × pxS) ⊕ (pxS)} (h : Mo_unwinds_n44 σ v1 v2 v3 = some o) (hC : ∀ s, o = .inl s → pw l (px_R 4) y_Mo_unwinds c_Mo_unwinds 4 none 2 [(0, .inr (some (0, 0, 0))), (1, .inl v1), (2, .inl v2), (3, .inl s.1)] [] ids mG s.2 0 0 Rt) (hX0 : ∀ e, o = .inr e → pw l (px_R 4) y_Mo_unwinds c_Mo_unwinds 4 none 50 [(0, .inr (some (0, 0, 0))), (1, .inl v1), (2, .inl v2)] [] ids mG e 0 0 Rt) : pw l (px_R 4) y_Mo_unwinds c_Mo_unwinds 4 none 44 [(0, .inr (some (0, 0, 0))), (1, .inl v1), (2, .inl v2), (3, .inl v3)] [] ids mG σ 0 0 Rt := by
  unfold Mo_unwinds_n44 at h
  refine pw_iinc (q := 3) (v := (v3 + 1)) (L' := [(3, .inl (v3 + 1)), (0, .inr (some (0, 0, 0))), (1, .inl v1), (2, .inl v2)]) (px_at td_Mo_unwinds 26 rfl) rfl rfl (by decide) rfl ?_
  refine pw_goto 2 (px_at td_Mo_unwinds 27 rfl) (by decide) ?_
  refine pw_L [(0, .inr (some (0, 0, 0))), (1, .inl v1), (2, .inl v2), (3, .inl (v3 + 1))] [1, 2, 3, 0] rfl ?_
  exact hC ((v3 + 1), σ) (Option.some.inj h).symm
def Mo_unwinds_n2 (σ : pxS) (v1 : Int32) (v2 : Int32) (v3 : Int32) : Option ((Int32 × pxS) ⊕ (pxS)) :=
  px_b1 (F_Mo_rails σ ) fun r1 =>
  (if r1 ≤ v3 then some (.inr σ) else (if ((v1 >>> (v3 &&& 31)) &&& 1) = 0 then Mo_unwinds_n44 σ v1 v2 v3 else px_b1 (F_Mo_state σ v3) fun r2 =>
  (if r2 = 1 then px_b1 (F_Mo_state_ σ v3 0) fun σ3 =>
  px_b1 (F_Mo_goesOut σ3 156 v3) fun σ4 =>
  Mo_unwinds_n44 σ4 v1 v2 v3 else Mo_unwinds_n44 σ v1 v2 v3)))
set_option maxRecDepth 100000 in
theorem Mo_unwinds_n2_l {l : Launch} {ids : List pxI} {Rt : Option pxV → List pxI → pxG → pxS → Prop} {σ : pxS} {v1 : Int32} {v2 : Int32} {v3 : Int32} {o : (Int32 × pxS) ⊕ (pxS)} (h : Mo_unwinds_n2 σ v1 v2 v3 = some o) (hC : ∀ s, o = .inl s → pw l (px_R 4) y_Mo_unwinds c_Mo_unwinds 4 none 2 [(0, .inr (some (0, 0, 0))), (1, .inl v1), (2, .inl v2), (3, .inl s.1)] [] ids mG s.2 0 0 Rt) (hX0 : ∀ e, o = .inr e → pw l (px_R 4) y_Mo_unwinds c_Mo_unwinds 4 none 50 [(0, .inr (some (0, 0, 0))), (1, .inl v1), (2, .inl v2)] [] ids mG e 0 0 Rt) : pw l (px_R 4) y_Mo_unwinds c_Mo_unwinds 4 none 2 [(0, .inr (some (0, 0, 0))), (1, .inl v1), (2, .inl v2), (3, .inl v3)] [] ids mG σ 0 0 Rt := by
  unfold Mo_unwinds_n2 at h
  refine pw_iload_n 3 (px_at td_Mo_unwinds 2 rfl) rfl rfl ?_
  refine pw_aload_n 0 (px_at td_Mo_unwinds 3 rfl) rfl rfl ?_
  obtain ⟨r1, hk1, h⟩ := px_b1_e h
  refine pw_cV1 (0, 0, 0) [] [.inl v3] (px_at td_Mo_unwinds 4 rfl) lV_Mo_223 rfl rfl rfl (Nat.le_of_ble_eq_true rfl) (by decide) (k_Mo_rails hk1) ?_
  rcases px_ite h with ⟨hc7, h⟩ | ⟨hc7, h⟩
  · refine pw_icmp_ge 50 (px_at td_Mo_unwinds 5 rfl) (by decide) (fun _ => ?_) (fun hn => absurd hc7 hn)
    refine pw_L [(0, .inr (some (0, 0, 0))), (1, .inl v1), (2, .inl v2)] [0, 1, 2] rfl ?_
    exact hX0 σ (Option.some.inj h).symm
  · refine pw_icmp_ge 50 (px_at td_Mo_unwinds 5 rfl) (by decide) (fun hn => absurd hn hc7) (fun _ => ?_)
    refine pw_iload_n 1 (px_at td_Mo_unwinds 6 rfl) rfl rfl ?_
    refine pw_iload_n 3 (px_at td_Mo_unwinds 7 rfl) rfl rfl ?_
    refine pw_ishr (px_at td_Mo_unwinds 8 rfl) ?_
    refine pw_iconst (v := 1) (px_at td_Mo_unwinds 9 rfl) (by decide) ?_
    refine pw_iand (px_at td_Mo_unwinds 10 rfl) ?_
    rcases px_ite h with ⟨hc6, h⟩ | ⟨hc6, h⟩
    · refine pw_if_eq 44 (px_at td_Mo_unwinds 11 rfl) (by decide) (fun _ => ?_) (fun hn => absurd hc6 hn)
      exact Mo_unwinds_n44_l h hC hX0
    · refine pw_if_eq 44 (px_at td_Mo_unwinds 11 rfl) (by decide) (fun hn => absurd hn hc6) (fun _ => ?_)
      refine pw_aload_n 0 (px_at td_Mo_unwinds 12 rfl) rfl rfl ?_
      refine pw_iload_n 3 (px_at td_Mo_unwinds 13 rfl) rfl rfl ?_
      obtain ⟨r2, hk2, h⟩ := px_b1_e h
      refine pw_cV1 (0, 0, 0) [.inl v3] [] (px_at td_Mo_unwinds 14 rfl) lV_Mo_230 rfl rfl rfl (Nat.le_of_ble_eq_true rfl) (by decide) (k_Mo_state hk2) ?_
      refine pw_iconst (v := 1) (px_at td_Mo_unwinds 15 rfl) (by decide) ?_
      rcases px_ite h with ⟨hc5, h⟩ | ⟨hc5, h⟩
      · refine pw_icmp_eq 30 (px_at td_Mo_unwinds 16 rfl) (by decide) (fun _ => ?_) (fun hn => absurd hc5 hn)
        refine pw_aload_n 0 (px_at td_Mo_unwinds 18 rfl) rfl rfl ?_
        refine pw_iload_n 3 (px_at td_Mo_unwinds 19 rfl) rfl rfl ?_
        refine pw_iconst (v := 0) (px_at td_Mo_unwinds 20 rfl) (by decide) ?_
        obtain ⟨σ3, hk3, h⟩ := px_b1_e h
        refine pw_cV0 (0, 0, 0) [.inl v3, .inl 0] [] (px_at td_Mo_unwinds 21 rfl) lV_Mo_236 rfl rfl rfl (Nat.le_of_ble_eq_true rfl) (by decide) (k_Mo_state_ hk3) ?_
        refine pw_aload_n 0 (px_at td_Mo_unwinds 22 rfl) rfl rfl ?_
        refine pw_sipush (v := 156) (px_at td_Mo_unwinds 23 rfl) (by decide) ?_
        refine pw_iload_n 3 (px_at td_Mo_unwinds 24 rfl) rfl rfl ?_
        obtain ⟨σ4, hk4, h⟩ := px_b1_e h
        refine pw_cV0 (0, 0, 0) [.inl 156, .inl v3] [] (px_at td_Mo_unwinds 25 rfl) lV_Mo_238 rfl rfl rfl (Nat.le_of_ble_eq_true rfl) (by decide) (k_Mo_goesOut hk4) ?_
        exact Mo_unwinds_n44_l h hC hX0
      · refine pw_icmp_eq 30 (px_at td_Mo_unwinds 16 rfl) (by decide) (fun hn => absurd hn hc5) (fun _ => ?_)
        refine pw_goto 44 (px_at td_Mo_unwinds 17 rfl) (by decide) ?_
        exact Mo_unwinds_n44_l h hC hX0
def Mo_unwinds_L2 (v1 : Int32) (v2 : Int32) : (Int32 × pxS) → Option ((Int32 × pxS) ⊕ (pxS)) := fun s => Mo_unwinds_n2 s.2 v1 v2 s.1
set_option maxRecDepth 100000 in
theorem Mo_unwinds_L2_l {l : Launch} {ids : List pxI} {Rt : Option pxV → List pxI → pxG → pxS → Prop} {v1 : Int32} {v2 : Int32} {n : Nat} {s : Int32 × pxS} {e : pxS} (h : px_it (Mo_unwinds_L2 v1 v2) n s = some e) (hX0 : pw l (px_R 4) y_Mo_unwinds c_Mo_unwinds 4 none 50 [(0, .inr (some (0, 0, 0))), (1, .inl v1), (2, .inl v2)] [] ids mG e 0 0 Rt) : pw l (px_R 4) y_Mo_unwinds c_Mo_unwinds 4 none 2 [(0, .inr (some (0, 0, 0))), (1, .inl v1), (2, .inl v2), (3, .inl s.1)] [] ids mG s.2 0 0 Rt := by
  refine px_it_rule (f := Mo_unwinds_L2 v1 v2) (C := fun s => pw l (px_R 4) y_Mo_unwinds c_Mo_unwinds 4 none 2 [(0, .inr (some (0, 0, 0))), (1, .inl v1), (2, .inl v2), (3, .inl s.1)] [] ids mG s.2 0 0 Rt) (X := fun e => (pw l (px_R 4) y_Mo_unwinds c_Mo_unwinds 4 none 50 [(0, .inr (some (0, 0, 0))), (1, .inl v1), (2, .inl v2)] [] ids mG e 0 0 Rt)) ?_ ?_ n s e h hX0
  · intro s s1 hf hC
    exact Mo_unwinds_n2_l hf (fun s2 hs => by cases hs; exact hC) (fun e he => by cases he)
  · intro s e hf hX
    exact Mo_unwinds_n2_l hf (fun s2 hs => by cases hs) (fun e1 he => by cases he; exact hX)
def Mo_unwinds_n56 (σ : pxS) (v1 : Int32) (v2 : Int32) (v3 : Int32) : Option ((Int32 × pxS) ⊕ (pxS)) :=
  (if v3 = (-1) then some (.inr σ) else px_gd ((13 * v3) + 8) 308 (px_l (px_up σ (1, 28, 0) ((13 * v3) + 8).toNatClampNeg 1) fun σ11 =>
  (if v3 = v2 then px_gd ((13 * v3) + 12) 308 (px_l (px_up σ11 (1, 28, 0) ((13 * v3) + 12).toNatClampNeg 1) fun σ17 =>
  px_b1 (F_Mo_comesTo σ17 169 v3) fun σ18 =>
  px_b1 (F_Mo_latestOf σ18 v1) fun r19 =>
  some (.inl (r19, σ18))) else px_gd ((13 * v3) + 12) 308 (px_l (px_up σ11 (1, 28, 0) ((13 * v3) + 12).toNatClampNeg 0) fun σ13 =>
  px_b1 (F_Mo_comesTo σ13 169 v3) fun σ14 =>
  px_b1 (F_Mo_latestOf σ14 v1) fun r15 =>
  some (.inl (r15, σ14))))))
set_option maxRecDepth 100000 in
theorem Mo_unwinds_n56_l {l : Launch} {ids : List pxI} {Rt : Option pxV → List pxI → pxG → pxS → Prop} {σ : pxS} {v1 : Int32} {v2 : Int32} {v3 : Int32} {o : (Int32 × pxS) ⊕ (pxS)} (h : Mo_unwinds_n56 σ v1 v2 v3 = some o) (hC : ∀ s, o = .inl s → pw l (px_R 4) y_Mo_unwinds c_Mo_unwinds 4 none 56 [(0, .inr (some (0, 0, 0))), (1, .inl v1), (2, .inl v2), (3, .inl s.1)] [] ids mG s.2 0 0 Rt) (hX0 : ∀ e, o = .inr e → pw l (px_R 4) y_Mo_unwinds c_Mo_unwinds 4 none 113 [] [] ids mG e 0 0 Rt) : pw l (px_R 4) y_Mo_unwinds c_Mo_unwinds 4 none 56 [(0, .inr (some (0, 0, 0))), (1, .inl v1), (2, .inl v2), (3, .inl v3)] [] ids mG σ 0 0 Rt := by
  unfold Mo_unwinds_n56 at h
  refine pw_iload_n 3 (px_at td_Mo_unwinds 32 rfl) rfl rfl ?_
  refine pw_iconst (v := (-1)) (px_at td_Mo_unwinds 33 rfl) (by decide) ?_
  rcases px_ite h with ⟨hc21, h⟩ | ⟨hc21, h⟩
  · refine pw_icmp_eq 113 (px_at td_Mo_unwinds 34 rfl) (by decide) (fun _ => ?_) (fun hn => absurd hc21 hn)
    refine pw_L [] [] rfl ?_
    exact hX0 σ (Option.some.inj h).symm
  · refine pw_icmp_eq 113 (px_at td_Mo_unwinds 34 rfl) (by decide) (fun hn => absurd hn hc21) (fun _ => ?_)
    refine pw_aload_n 0 (px_at td_Mo_unwinds 35 rfl) rfl rfl ?_
    refine pw_getf (v := .inr (some (1, 28, 0))) (px_at td_Mo_unwinds 36 rfl) lf_Mo_63 rfl rfl rfl ?_
    refine pw_bipush (v := 13) (px_at td_Mo_unwinds 37 rfl) (by decide) ?_
    refine pw_iload_n 3 (px_at td_Mo_unwinds 38 rfl) rfl rfl ?_
    refine pw_imul (px_at td_Mo_unwinds 39 rfl) ?_
    refine pw_bipush (v := 8) (px_at td_Mo_unwinds 40 rfl) (by decide) ?_
    refine pw_iadd (px_at td_Mo_unwinds 41 rfl) ?_
    refine pw_iconst (v := 1) (px_at td_Mo_unwinds 42 rfl) (by decide) ?_
    obtain ⟨hi10, h⟩ := px_gd_e h
    obtain ⟨σ11, hσ11, h⟩ := px_l_e h
    refine pw_ias (px_at td_Mo_unwinds 43 rfl) rfl hi10 rfl hσ11 ?_
    refine pw_aload_n 0 (px_at td_Mo_unwinds 44 rfl) rfl rfl ?_
    refine pw_getf (v := .inr (some (1, 28, 0))) (px_at td_Mo_unwinds 45 rfl) lf_Mo_63 rfl rfl rfl ?_
    refine pw_bipush (v := 13) (px_at td_Mo_unwinds 46 rfl) (by decide) ?_
    refine pw_iload_n 3 (px_at td_Mo_unwinds 47 rfl) rfl rfl ?_
    refine pw_imul (px_at td_Mo_unwinds 48 rfl) ?_
    refine pw_bipush (v := 12) (px_at td_Mo_unwinds 49 rfl) (by decide) ?_
    refine pw_iadd (px_at td_Mo_unwinds 50 rfl) ?_
    refine pw_iload_n 3 (px_at td_Mo_unwinds 51 rfl) rfl rfl ?_
    refine pw_iload_n 2 (px_at td_Mo_unwinds 52 rfl) rfl rfl ?_
    rcases px_ite h with ⟨hc20, h⟩ | ⟨hc20, h⟩
    · refine pw_icmp_ne 94 (px_at td_Mo_unwinds 53 rfl) (by decide) (fun hn => absurd hc20 hn) (fun _ => ?_)
      refine pw_iconst (v := 1) (px_at td_Mo_unwinds 54 rfl) (by decide) ?_
      refine pw_goto 95 (px_at td_Mo_unwinds 55 rfl) (by decide) ?_
      obtain ⟨hi16, h⟩ := px_gd_e h
      obtain ⟨σ17, hσ17, h⟩ := px_l_e h
      refine pw_ias (px_at td_Mo_unwinds 57 rfl) rfl hi16 rfl hσ17 ?_
      refine pw_aload_n 0 (px_at td_Mo_unwinds 58 rfl) rfl rfl ?_
      refine pw_sipush (v := 169) (px_at td_Mo_unwinds 59 rfl) (by decide) ?_
      refine pw_iload_n 3 (px_at td_Mo_unwinds 60 rfl) rfl rfl ?_
      obtain ⟨σ18, hk18, h⟩ := px_b1_e h
      refine pw_cV0 (0, 0, 0) [.inl 169, .inl v3] [] (px_at td_Mo_unwinds 61 rfl) lV_Mo_244 rfl rfl rfl (Nat.le_of_ble_eq_true rfl) (by decide) (k_Mo_comesTo hk18) ?_
      refine pw_aload_n 0 (px_at td_Mo_unwinds 62 rfl) rfl rfl ?_
      refine pw_iload_n 1 (px_at td_Mo_unwinds 63 rfl) rfl rfl ?_
      obtain ⟨r19, hk19, h⟩ := px_b1_e h
      refine pw_cV1 (0, 0, 0) [.inl v1] [] (px_at td_Mo_unwinds 64 rfl) lV_Mo_241 rfl rfl rfl (Nat.le_of_ble_eq_true rfl) (by decide) (k_Mo_latestOf hk19) ?_
      refine pw_istore_n (L' := [(3, .inl r19), (0, .inr (some (0, 0, 0))), (1, .inl v1), (2, .inl v2)]) (px_at td_Mo_unwinds 65 rfl) rfl (by decide) rfl ?_
      refine pw_goto 56 (px_at td_Mo_unwinds 66 rfl) (by decide) ?_
      refine pw_L [(0, .inr (some (0, 0, 0))), (1, .inl v1), (2, .inl v2), (3, .inl r19)] [1, 2, 3, 0] rfl ?_
      exact hC (r19, σ18) (Option.some.inj h).symm
    · refine pw_icmp_ne 94 (px_at td_Mo_unwinds 53 rfl) (by decide) (fun _ => ?_) (fun hn => absurd hn hc20)
      refine pw_iconst (v := 0) (px_at td_Mo_unwinds 56 rfl) (by decide) ?_
      obtain ⟨hi12, h⟩ := px_gd_e h
      obtain ⟨σ13, hσ13, h⟩ := px_l_e h
      refine pw_ias (px_at td_Mo_unwinds 57 rfl) rfl hi12 rfl hσ13 ?_
      refine pw_aload_n 0 (px_at td_Mo_unwinds 58 rfl) rfl rfl ?_
      refine pw_sipush (v := 169) (px_at td_Mo_unwinds 59 rfl) (by decide) ?_
      refine pw_iload_n 3 (px_at td_Mo_unwinds 60 rfl) rfl rfl ?_
      obtain ⟨σ14, hk14, h⟩ := px_b1_e h
      refine pw_cV0 (0, 0, 0) [.inl 169, .inl v3] [] (px_at td_Mo_unwinds 61 rfl) lV_Mo_244 rfl rfl rfl (Nat.le_of_ble_eq_true rfl) (by decide) (k_Mo_comesTo hk14) ?_
      refine pw_aload_n 0 (px_at td_Mo_unwinds 62 rfl) rfl rfl ?_
      refine pw_iload_n 1 (px_at td_Mo_unwinds 63 rfl) rfl rfl ?_
      obtain ⟨r15, hk15, h⟩ := px_b1_e h
      refine pw_cV1 (0, 0, 0) [.inl v1] [] (px_at td_Mo_unwinds 64 rfl) lV_Mo_241 rfl rfl rfl (Nat.le_of_ble_eq_true rfl) (by decide) (k_Mo_latestOf hk15) ?_
      refine pw_istore_n (L' := [(3, .inl r15), (0, .inr (some (0, 0, 0))), (1, .inl v1), (2, .inl v2)]) (px_at td_Mo_unwinds 65 rfl) rfl (by decide) rfl ?_
      refine pw_goto 56 (px_at td_Mo_unwinds 66 rfl) (by decide) ?_
      refine pw_L [(0, .inr (some (0, 0, 0))), (1, .inl v1), (2, .inl v2), (3, .inl r15)] [1, 2, 3, 0] rfl ?_
      exact hC (r15, σ14) (Option.some.inj h).symm
def Mo_unwinds_L56 (v1 : Int32) (v2 : Int32) : (Int32 × pxS) → Option ((Int32 × pxS) ⊕ (pxS)) := fun s => Mo_unwinds_n56 s.2 v1 v2 s.1
set_option maxRecDepth 100000 in
theorem Mo_unwinds_L56_l {l : Launch} {ids : List pxI} {Rt : Option pxV → List pxI → pxG → pxS → Prop} {v1 : Int32} {v2 : Int32} {n : Nat} {s : Int32 × pxS} {e : pxS} (h : px_it (Mo_unwinds_L56 v1 v2) n s = some e) (hX0 : pw l (px_R 4) y_Mo_unwinds c_Mo_unwinds 4 none 113 [] [] ids mG e 0 0 Rt) : pw l (px_R 4) y_Mo_unwinds c_Mo_unwinds 4 none 56 [(0, .inr (some (0, 0, 0))), (1, .inl v1), (2, .inl v2), (3, .inl s.1)] [] ids mG s.2 0 0 Rt := by
  refine px_it_rule (f := Mo_unwinds_L56 v1 v2) (C := fun s => pw l (px_R 4) y_Mo_unwinds c_Mo_unwinds 4 none 56 [(0, .inr (some (0, 0, 0))), (1, .inl v1), (2, .inl v2), (3, .inl s.1)] [] ids mG s.2 0 0 Rt) (X := fun e => (pw l (px_R 4) y_Mo_unwinds c_Mo_unwinds 4 none 113 [] [] ids mG e 0 0 Rt)) ?_ ?_ n s e h hX0
  · intro s s1 hf hC
    exact Mo_unwinds_n56_l hf (fun s2 hs => by cases hs; exact hC) (fun e he => by cases he)
  · intro s e hf hX
    exact Mo_unwinds_n56_l hf (fun s2 hs => by cases hs) (fun e1 he => by cases he; exact hX)
def F_Mo_unwinds (σ : pxS) (v1 : Int32) (v2 : Int32) : Option (pxS) :=
  px_b1 (px_it (Mo_unwinds_L2 v1 v2) px_N (0, σ)) fun e8 =>
  px_b1 (F_Mo_latestOf e8 v1) fun r9 =>
  px_b1 (px_it (Mo_unwinds_L56 v1 v2) px_N (r9, e8)) fun e22 =>
  some e22
set_option maxRecDepth 100000 in
theorem e_Mo_unwinds {l : Launch} {ids : List pxI} {Rt : Option pxV → List pxI → pxG → pxS → Prop} {σ : pxS} {v1 : Int32} {v2 : Int32} {res : pxS} (h : F_Mo_unwinds σ v1 v2 = some res) (hR : Rt none ids mG res) : pw l (px_R 4) y_Mo_unwinds c_Mo_unwinds 4 none 0 [(0, .inr (some (0, 0, 0))), (1, .inl v1), (2, .inl v2)] [] ids mG σ 0 0 Rt := by
  unfold F_Mo_unwinds at h
  refine pw_iconst (v := 0) (px_at td_Mo_unwinds 0 rfl) (by decide) ?_
  refine pw_istore_n (L' := [(3, .inl 0), (0, .inr (some (0, 0, 0))), (1, .inl v1), (2, .inl v2)]) (px_at td_Mo_unwinds 1 rfl) rfl (by decide) rfl ?_
  obtain ⟨e8, he8, h⟩ := px_b1_e h
  refine pw_L [(0, .inr (some (0, 0, 0))), (1, .inl v1), (2, .inl v2), (3, .inl 0)] [1, 2, 3, 0] rfl ?_
  refine Mo_unwinds_L2_l he8 ?_
  refine pw_aload_n 0 (px_at td_Mo_unwinds 28 rfl) rfl rfl ?_
  refine pw_iload_n 1 (px_at td_Mo_unwinds 29 rfl) rfl rfl ?_
  obtain ⟨r9, hk9, h⟩ := px_b1_e h
  refine pw_cV1 (0, 0, 0) [.inl v1] [] (px_at td_Mo_unwinds 30 rfl) lV_Mo_241 rfl rfl rfl (Nat.le_of_ble_eq_true rfl) (by decide) (k_Mo_latestOf hk9) ?_
  refine pw_istore_n (L' := [(3, .inl r9), (0, .inr (some (0, 0, 0))), (1, .inl v1), (2, .inl v2)]) (px_at td_Mo_unwinds 31 rfl) rfl (by decide) rfl ?_
  obtain ⟨e22, he22, h⟩ := px_b1_e h
  refine pw_L [(0, .inr (some (0, 0, 0))), (1, .inl v1), (2, .inl v2), (3, .inl r9)] [1, 2, 3, 0] rfl ?_
  refine Mo_unwinds_L56_l he22 ?_
  obtain rfl := Option.some.inj h
  exact pw_vret (px_at td_Mo_unwinds 67 rfl) rfl (Nat.le_refl 0) (Nat.le_refl 0) hR
theorem k_Mo_unwinds {l : Launch} {ids : List pxI} {σ : pxS} {v1 : Int32} {v2 : Int32} {res : pxS} (h : F_Mo_unwinds σ v1 v2 = some res) : pm l y_Mo_unwinds c_Mo_unwinds 4 none (px_R 4) [.inr (some (0, 0, 0)), .inl v1, .inl v2] ids mG σ (px_r none ids mG res) :=
  pm_ofF (by decide +kernel) (Nat.le_of_ble_eq_true rfl) (e_Mo_unwinds h ⟨rfl, rfl, rfl, rfl⟩)
/-! Mo_waitsNow -/
def F_Mo_waitsNow (σ : pxS) (v1 : Int32) : Option (pxS) :=
  px_b1 (F_Mo_state σ v1) fun r1 =>
  (if r1 = 0 then px_b1 (F_Mo_state_ σ v1 1) fun σ2 =>
  px_b1 (F_Mo_comesTo σ2 156 v1) fun σ3 =>
  some σ3 else some σ)
set_option maxRecDepth 100000 in
theorem e_Mo_waitsNow {l : Launch} {ids : List pxI} {Rt : Option pxV → List pxI → pxG → pxS → Prop} {σ : pxS} {v1 : Int32} {res : pxS} (h : F_Mo_waitsNow σ v1 = some res) (hR : Rt none ids mG res) : pw l (px_R 2) y_Mo_waitsNow c_Mo_waitsNow 2 none 0 [(0, .inr (some (0, 0, 0))), (1, .inl v1)] [] ids mG σ 0 0 Rt := by
  unfold F_Mo_waitsNow at h
  refine pw_aload_n 0 (px_at td_Mo_waitsNow 0 rfl) rfl rfl ?_
  refine pw_iload_n 1 (px_at td_Mo_waitsNow 1 rfl) rfl rfl ?_
  obtain ⟨r1, hk1, h⟩ := px_b1_e h
  refine pw_cV1 (0, 0, 0) [.inl v1] [] (px_at td_Mo_waitsNow 2 rfl) lV_Mo_230 rfl rfl rfl (Nat.le_of_ble_eq_true rfl) (by decide) (k_Mo_state hk1) ?_
  rcases px_ite h with ⟨hc4, h⟩ | ⟨hc4, h⟩
  · refine pw_if_eq 9 (px_at td_Mo_waitsNow 3 rfl) (by decide) (fun _ => ?_) (fun hn => absurd hc4 hn)
    refine pw_aload_n 0 (px_at td_Mo_waitsNow 5 rfl) rfl rfl ?_
    refine pw_iload_n 1 (px_at td_Mo_waitsNow 6 rfl) rfl rfl ?_
    refine pw_iconst (v := 1) (px_at td_Mo_waitsNow 7 rfl) (by decide) ?_
    obtain ⟨σ2, hk2, h⟩ := px_b1_e h
    refine pw_cV0 (0, 0, 0) [.inl v1, .inl 1] [] (px_at td_Mo_waitsNow 8 rfl) lV_Mo_236 rfl rfl rfl (Nat.le_of_ble_eq_true rfl) (by decide) (k_Mo_state_ hk2) ?_
    refine pw_aload_n 0 (px_at td_Mo_waitsNow 9 rfl) rfl rfl ?_
    refine pw_sipush (v := 156) (px_at td_Mo_waitsNow 10 rfl) (by decide) ?_
    refine pw_iload_n 1 (px_at td_Mo_waitsNow 11 rfl) rfl rfl ?_
    obtain ⟨σ3, hk3, h⟩ := px_b1_e h
    refine pw_cV0 (0, 0, 0) [.inl 156, .inl v1] [] (px_at td_Mo_waitsNow 12 rfl) lV_Mo_244 rfl rfl rfl (Nat.le_of_ble_eq_true rfl) (by decide) (k_Mo_comesTo hk3) ?_
    obtain rfl := Option.some.inj h
    exact pw_vret (px_at td_Mo_waitsNow 13 rfl) rfl (Nat.le_refl 0) (Nat.le_refl 0) hR
  · refine pw_if_eq 9 (px_at td_Mo_waitsNow 3 rfl) (by decide) (fun hn => absurd hn hc4) (fun _ => ?_)
    obtain rfl := Option.some.inj h
    exact pw_vret (px_at td_Mo_waitsNow 4 rfl) rfl (Nat.le_refl 0) (Nat.le_refl 0) hR
theorem k_Mo_waitsNow {l : Launch} {ids : List pxI} {σ : pxS} {v1 : Int32} {res : pxS} (h : F_Mo_waitsNow σ v1 = some res) : pm l y_Mo_waitsNow c_Mo_waitsNow 2 none (px_R 2) [.inr (some (0, 0, 0)), .inl v1] ids mG σ (px_r none ids mG res) :=
  pm_ofF (by decide +kernel) (Nat.le_of_ble_eq_true rfl) (e_Mo_waitsNow h ⟨rfl, rfl, rfl, rfl⟩)
