theorem lf_PR_137 : px_F R_PR 137 1 4 := ⟨_, rfl, by decide, (px_w 159 (by decide +kernel) (by decide +kernel))⟩
theorem lf_PR_141 : px_F R_PR 141 1 5 := ⟨_, rfl, by decide, (px_w 163 (by decide +kernel) (by decide +kernel))⟩
theorem lf_PR_144 : px_F R_PR 144 1 6 := ⟨_, rfl, by decide, (px_w 166 (by decide +kernel) (by decide +kernel))⟩
theorem lf_PR_147 : px_F R_PR 147 1 7 := ⟨_, rfl, by decide, (px_w 170 (by decide +kernel) (by decide +kernel))⟩
theorem lf_PR_156 : px_F R_PR 156 3 6 := ⟨_, rfl, by decide, (px_w 410 (by decide +kernel) (by decide +kernel))⟩
theorem lf_PR_162 : px_F R_PR 162 3 8 := ⟨_, rfl, by decide, (px_w 415 (by decide +kernel) (by decide +kernel))⟩
theorem lf_PR_168 : px_F R_PR 168 3 10 := ⟨_, rfl, by decide, (px_w 421 (by decide +kernel) (by decide +kernel))⟩
theorem lf_PR_171 : px_F R_PR 171 3 11 := ⟨_, rfl, by decide, (px_w 425 (by decide +kernel) (by decide +kernel))⟩
theorem lV_PR_159 : px_yV R_PR 159 2 y_Bo_isGood c_Bo_isGood 2 (some .boolean) 1 := ⟨⟨⟨(px_w 1103 (by decide +kernel) (by decide +kernel)), (px_w 107 (by decide +kernel) (by decide +kernel)), (px_w 763 (by decide +kernel) (by decide +kernel))⟩, by decide +kernel, by decide +kernel, by decide +kernel⟩, (px_w 761 (by decide +kernel) (by decide +kernel)), (px_w 762 (by decide +kernel) (by decide +kernel)), rfl⟩
set_option maxRecDepth 100000 in
theorem e_PR_rail {l : Launch} {ids : List pxI} {Rt : Option pxV → List pxI → pxG → pxS → Prop} {σ : pxS} {v1 : Int32} {v2 : Int32} {res : Int32} (h1 : F_PR_isRail σ v1 = some 1) (h : F_PR_rail σ v1 v2 = some res) (hR : Rt (some (.inl res)) ids cG σ) : pw l (px_Rm 6 1 6) y_PR_rail c_PR_rail 4 (some .int) 0 [(0, .inr (some (0, 0, 0))), (1, .inl v1), (2, .inl v2)] [] ids cG σ 0 0 Rt := by
  unfold F_PR_rail at h
  refine pw_aload_n 0 (px_at td_PR_rail 0 rfl) rfl rfl ?_
  refine pw_iload_n 1 (px_at td_PR_rail 1 rfl) rfl rfl ?_
  refine pw_callV (R' := px_R 1) (o := (0, 0, 0)) [.inl v1] (st := []) (px_at td_PR_rail 2 rfl) lV_PR_101.1 lV_PR_101.2.1 lV_PR_101.2.2.1 lV_PR_101.2.2.2 rfl rfl rfl (Nat.le_of_ble_eq_true rfl) (by decide) (by decide) (k_PR_isRail h1) (px_k1 ?_)
  refine pw_if_ne 16 (px_at td_PR_rail 3 rfl) (by decide) (fun _ => ?_) (fun hn => absurd hn (by decide))
  refine pw_aload_n 0 (px_at td_PR_rail 8 rfl) rfl rfl ?_
  refine pw_getf (v := .inr (some (2, 1, 0))) (px_at td_PR_rail 9 rfl) lf_PR_49 rfl rfl rfl ?_
  refine pw_getf (v := .inr (some (9, 1, 0))) (px_at td_PR_rail 10 rfl) lf_PR_109 rfl rfl rfl ?_
  refine pw_iload_n 1 (px_at td_PR_rail 11 rfl) rfl rfl ?_
  obtain ⟨hi, h⟩ := px_gd_e h
  refine pw_aald (r := (3, 1, v1.toNatClampNeg)) (px_at td_PR_rail 12 rfl) rfl (fun _ => rfl) hi rfl ?_
  refine pw_astore_n (L' := [(3, .inr (some (3, 1, v1.toNatClampNeg))), (0, .inr (some (0, 0, 0))), (1, .inl v1), (2, .inl v2)]) (px_at td_PR_rail 13 rfl) rfl (by decide) rfl ?_
  refine pw_iload_n 3 (px_at td_PR_rail 14 rfl) rfl rfl ?_
  rcases px_ite h with ⟨hs0, h⟩ | ⟨_, h⟩
  · refine pw_tin (off := 73) 0 100 (px_at td_PR_rail 15 rfl) hs0 (by decide) (by decide) (by decide) (by decide) ?_
    refine pw_aload_n 1 (px_at td_PR_rail 16 rfl) rfl rfl ?_
    refine pw_getf (v := .inr (some (1, (σ (0, 0, 0) 6).toNatClampNeg, 0))) (px_at td_PR_rail 17 rfl) lf_PR_31 rfl rfl rfl ?_
    refine pw_getf (v := .inr (some (8, (σ (0, 0, 0) 6).toNatClampNeg, 1))) (px_at td_PR_rail 18 rfl) lf_PR_137 rfl rfl rfl ?_
    refine pw_iload_n 2 (px_at td_PR_rail 19 rfl) rfl rfl ?_
    obtain ⟨hi3, h⟩ := px_gd_e h
    refine pw_ial (px_at td_PR_rail 20 rfl) rfl hi3 rfl ?_
    obtain rfl := Option.some.inj h
    exact pw_iret (px_at td_PR_rail 21 rfl) rfl (Nat.zero_le _) (Nat.zero_le _) hR
  ·
    rcases px_ite h with ⟨hs1, h⟩ | ⟨_, h⟩
    · refine pw_tin (off := 83) 1 110 (px_at td_PR_rail 15 rfl) hs1 (by decide) (by decide) (by decide) (by decide) ?_
      refine pw_aload_n 1 (px_at td_PR_rail 22 rfl) rfl rfl ?_
      refine pw_getf (v := .inr (some (1, (σ (0, 0, 0) 6).toNatClampNeg, 0))) (px_at td_PR_rail 23 rfl) lf_PR_31 rfl rfl rfl ?_
      refine pw_getf (v := .inr (some (8, (σ (0, 0, 0) 6).toNatClampNeg, 2))) (px_at td_PR_rail 24 rfl) lf_PR_141 rfl rfl rfl ?_
      refine pw_iload_n 2 (px_at td_PR_rail 25 rfl) rfl rfl ?_
      obtain ⟨hi3, h⟩ := px_gd_e h
      refine pw_ial (px_at td_PR_rail 26 rfl) rfl hi3 rfl ?_
      obtain rfl := Option.some.inj h
      exact pw_iret (px_at td_PR_rail 27 rfl) rfl (Nat.zero_le _) (Nat.zero_le _) hR
    ·
      rcases px_ite h with ⟨hs2, h⟩ | ⟨_, h⟩
      · refine pw_tin (off := 93) 2 120 (px_at td_PR_rail 15 rfl) hs2 (by decide) (by decide) (by decide) (by decide) ?_
        refine pw_aload_n 1 (px_at td_PR_rail 28 rfl) rfl rfl ?_
        refine pw_getf (v := .inr (some (1, (σ (0, 0, 0) 6).toNatClampNeg, 0))) (px_at td_PR_rail 29 rfl) lf_PR_31 rfl rfl rfl ?_
        refine pw_getf (v := .inr (some (8, (σ (0, 0, 0) 6).toNatClampNeg, 3))) (px_at td_PR_rail 30 rfl) lf_PR_144 rfl rfl rfl ?_
        refine pw_iload_n 2 (px_at td_PR_rail 31 rfl) rfl rfl ?_
        obtain ⟨hi3, h⟩ := px_gd_e h
        refine pw_ial (px_at td_PR_rail 32 rfl) rfl hi3 rfl ?_
        obtain rfl := Option.some.inj h
        exact pw_iret (px_at td_PR_rail 33 rfl) rfl (Nat.zero_le _) (Nat.zero_le _) hR
      ·
        rcases px_ite h with ⟨hs3, h⟩ | ⟨_, h⟩
        · refine pw_tin (off := 103) 3 130 (px_at td_PR_rail 15 rfl) hs3 (by decide) (by decide) (by decide) (by decide) ?_
          refine pw_aload_n 1 (px_at td_PR_rail 34 rfl) rfl rfl ?_
          refine pw_getf (v := .inr (some (1, (σ (0, 0, 0) 6).toNatClampNeg, 0))) (px_at td_PR_rail 35 rfl) lf_PR_31 rfl rfl rfl ?_
          refine pw_getf (v := .inr (some (8, (σ (0, 0, 0) 6).toNatClampNeg, 4))) (px_at td_PR_rail 36 rfl) lf_PR_147 rfl rfl rfl ?_
          refine pw_iload_n 2 (px_at td_PR_rail 37 rfl) rfl rfl ?_
          obtain ⟨hi3, h⟩ := px_gd_e h
          refine pw_ial (px_at td_PR_rail 38 rfl) rfl hi3 rfl ?_
          obtain rfl := Option.some.inj h
          exact pw_iret (px_at td_PR_rail 39 rfl) rfl (Nat.zero_le _) (Nat.zero_le _) hR
        ·
          rcases px_ite h with ⟨hs4, h⟩ | ⟨_, h⟩
          · refine pw_tin (off := 113) 4 140 (px_at td_PR_rail 15 rfl) hs4 (by decide) (by decide) (by decide) (by decide) ?_
            refine pw_aload_n 0 (px_at td_PR_rail 40 rfl) rfl rfl ?_
            refine pw_getf (v := .inl (σ (3, 1, v1.toNatClampNeg) 0)) (px_at td_PR_rail 41 rfl) lf_PR_127 rfl rfl rfl ?_
            obtain rfl := Option.some.inj h
            exact pw_iret (px_at td_PR_rail 42 rfl) rfl (Nat.zero_le _) (Nat.zero_le _) hR
          ·
            rcases px_ite h with ⟨hs5, h⟩ | ⟨_, h⟩
            · refine pw_tin (off := 118) 5 145 (px_at td_PR_rail 15 rfl) hs5 (by decide) (by decide) (by decide) (by decide) ?_
              refine pw_aload_n 0 (px_at td_PR_rail 43 rfl) rfl rfl ?_
              refine pw_getf (v := .inl (σ (3, 1, v1.toNatClampNeg) 1)) (px_at td_PR_rail 44 rfl) lf_PR_131 rfl rfl rfl ?_
              obtain rfl := Option.some.inj h
              exact pw_iret (px_at td_PR_rail 45 rfl) rfl (Nat.zero_le _) (Nat.zero_le _) hR
            ·
              rcases px_ite h with ⟨hs6, h⟩ | ⟨_, h⟩
              · refine pw_tin (off := 123) 6 150 (px_at td_PR_rail 15 rfl) hs6 (by decide) (by decide) (by decide) (by decide) ?_
                refine pw_aload_n 0 (px_at td_PR_rail 46 rfl) rfl rfl ?_
                refine pw_getf (v := .inl (σ (3, 1, v1.toNatClampNeg) 2)) (px_at td_PR_rail 47 rfl) lf_PR_113 rfl rfl rfl ?_
                obtain rfl := Option.some.inj h
                exact pw_iret (px_at td_PR_rail 48 rfl) rfl (Nat.zero_le _) (Nat.zero_le _) hR
              ·
                rcases px_ite h with ⟨hs7, h⟩ | ⟨_, h⟩
                · refine pw_tin (off := 128) 7 155 (px_at td_PR_rail 15 rfl) hs7 (by decide) (by decide) (by decide) (by decide) ?_
                  refine pw_aload_n 0 (px_at td_PR_rail 49 rfl) rfl rfl ?_
                  refine pw_getf (v := .inl (σ (3, 1, v1.toNatClampNeg) 3)) (px_at td_PR_rail 50 rfl) lf_PR_150 rfl rfl rfl ?_
                  obtain rfl := Option.some.inj h
                  exact pw_iret (px_at td_PR_rail 51 rfl) rfl (Nat.zero_le _) (Nat.zero_le _) hR
                ·
                  rcases px_ite h with ⟨hs8, h⟩ | ⟨_, h⟩
                  · refine pw_tin (off := 133) 8 160 (px_at td_PR_rail 15 rfl) hs8 (by decide) (by decide) (by decide) (by decide) ?_
                    refine pw_aload_n 0 (px_at td_PR_rail 52 rfl) rfl rfl ?_
                    refine pw_getf (v := .inl (σ (3, 1, v1.toNatClampNeg) 5)) (px_at td_PR_rail 53 rfl) lf_PR_153 rfl rfl rfl ?_
                    obtain rfl := Option.some.inj h
                    exact pw_iret (px_at td_PR_rail 54 rfl) rfl (Nat.zero_le _) (Nat.zero_le _) hR
                  ·
                    rcases px_ite h with ⟨hs9, h⟩ | ⟨_, h⟩
                    · refine pw_tin (off := 138) 9 165 (px_at td_PR_rail 15 rfl) hs9 (by decide) (by decide) (by decide) (by decide) ?_
                      refine pw_aload_n 0 (px_at td_PR_rail 55 rfl) rfl rfl ?_
                      refine pw_getf (v := .inl (σ (3, 1, v1.toNatClampNeg) 6)) (px_at td_PR_rail 56 rfl) lf_PR_156 rfl rfl rfl ?_
                      rcases px_ite h with ⟨hc, h⟩ | ⟨hc, h⟩
                      · refine pw_if_eq 176 (px_at td_PR_rail 57 rfl) (by decide) (fun _ => ?_) (fun hn => absurd hc hn)
                        refine pw_iconst (v := 0) (px_at td_PR_rail 60 rfl) (by decide) ?_
                        obtain rfl := Option.some.inj h
                        exact pw_iret (px_at td_PR_rail 61 rfl) rfl (Nat.zero_le _) (Nat.zero_le _) hR
                      · refine pw_if_eq 176 (px_at td_PR_rail 57 rfl) (by decide) (fun hn => absurd hn hc) (fun _ => ?_)
                        refine pw_iconst (v := 1) (px_at td_PR_rail 58 rfl) (by decide) ?_
                        refine pw_goto 177 (px_at td_PR_rail 59 rfl) (by decide) ?_
                        obtain rfl := Option.some.inj h
                        exact pw_iret (px_at td_PR_rail 61 rfl) rfl (Nat.zero_le _) (Nat.zero_le _) hR
                    ·
                      rcases px_ite h with ⟨hs10, h⟩ | ⟨_, h⟩
                      · refine pw_tin (off := 151) 10 178 (px_at td_PR_rail 15 rfl) hs10 (by decide) (by decide) (by decide) (by decide) ?_
                        refine pw_aload_n 1 (px_at td_PR_rail 62 rfl) rfl rfl ?_
                        refine pw_getf (v := .inr (some (2, 1, 0))) (px_at td_PR_rail 63 rfl) lf_PR_49 rfl rfl rfl ?_
                        refine pw_iload_n 2 (px_at td_PR_rail 64 rfl) rfl rfl ?_
                        obtain ⟨r, hk, h⟩ := px_b1_e h
                        refine pw_callV (R' := px_R 1) (o := (2, 1, 0)) [.inl v1] (st := []) (px_at td_PR_rail 65 rfl) lV_PR_159.1 lV_PR_159.2.1 lV_PR_159.2.2.1 lV_PR_159.2.2.2 rfl rfl rfl (Nat.le_of_ble_eq_true rfl) (by decide) (by decide) (k_Bo_isGood hk) (px_k1 ?_)
                        rcases px_ite h with ⟨hc, h⟩ | ⟨hc, h⟩
                        · refine pw_if_eq 193 (px_at td_PR_rail 66 rfl) (by decide) (fun _ => ?_) (fun hn => absurd hc hn)
                          refine pw_iconst (v := 0) (px_at td_PR_rail 69 rfl) (by decide) ?_
                          obtain rfl := Option.some.inj h
                          exact pw_iret (px_at td_PR_rail 70 rfl) rfl (Nat.zero_le _) (Nat.zero_le _) hR
                        · refine pw_if_eq 193 (px_at td_PR_rail 66 rfl) (by decide) (fun hn => absurd hn hc) (fun _ => ?_)
                          refine pw_iconst (v := 1) (px_at td_PR_rail 67 rfl) (by decide) ?_
                          refine pw_goto 194 (px_at td_PR_rail 68 rfl) (by decide) ?_
                          obtain rfl := Option.some.inj h
                          exact pw_iret (px_at td_PR_rail 70 rfl) rfl (Nat.zero_le _) (Nat.zero_le _) hR
                      ·
                        rcases px_ite h with ⟨hs11, h⟩ | ⟨_, h⟩
                        · refine pw_tin (off := 168) 11 195 (px_at td_PR_rail 15 rfl) hs11 (by decide) (by decide) (by decide) (by decide) ?_
                          refine pw_aload_n 0 (px_at td_PR_rail 71 rfl) rfl rfl ?_
                          refine pw_getf (v := .inl (σ (3, 1, v1.toNatClampNeg) 8)) (px_at td_PR_rail 72 rfl) lf_PR_162 rfl rfl rfl ?_
                          obtain rfl := Option.some.inj h
                          exact pw_iret (px_at td_PR_rail 73 rfl) rfl (Nat.zero_le _) (Nat.zero_le _) hR
                        ·
                          rcases px_ite h with ⟨hs12, h⟩ | ⟨_, h⟩
                          · refine pw_tin (off := 173) 12 200 (px_at td_PR_rail 15 rfl) hs12 (by decide) (by decide) (by decide) (by decide) ?_
                            refine pw_aload_n 0 (px_at td_PR_rail 74 rfl) rfl rfl ?_
                            refine pw_getf (v := .inl (σ (3, 1, v1.toNatClampNeg) 9)) (px_at td_PR_rail 75 rfl) lf_PR_165 rfl rfl rfl ?_
                            obtain rfl := Option.some.inj h
                            exact pw_iret (px_at td_PR_rail 76 rfl) rfl (Nat.zero_le _) (Nat.zero_le _) hR
                          ·
                            rcases px_ite h with ⟨hs13, h⟩ | ⟨_, h⟩
                            · refine pw_tin (off := 178) 13 205 (px_at td_PR_rail 15 rfl) hs13 (by decide) (by decide) (by decide) (by decide) ?_
                              refine pw_aload_n 0 (px_at td_PR_rail 77 rfl) rfl rfl ?_
                              refine pw_getf (v := .inl (σ (3, 1, v1.toNatClampNeg) 10)) (px_at td_PR_rail 78 rfl) lf_PR_168 rfl rfl rfl ?_
                              obtain rfl := Option.some.inj h
                              exact pw_iret (px_at td_PR_rail 79 rfl) rfl (Nat.zero_le _) (Nat.zero_le _) hR
                            ·
                              rcases px_ite h with ⟨hs14, h⟩ | ⟨_, h⟩
                              · refine pw_tin (off := 183) 14 210 (px_at td_PR_rail 15 rfl) hs14 (by decide) (by decide) (by decide) (by decide) ?_
                                refine pw_aload_n 0 (px_at td_PR_rail 80 rfl) rfl rfl ?_
                                refine pw_getf (v := .inl (σ (3, 1, v1.toNatClampNeg) 11)) (px_at td_PR_rail 81 rfl) lf_PR_171 rfl rfl rfl ?_
                                rcases px_ite h with ⟨hc, h⟩ | ⟨hc, h⟩
                                · refine pw_if_ge 222 (px_at td_PR_rail 82 rfl) (by decide) (fun hn => absurd hc (Int32.not_lt.mpr hn)) (fun _ => ?_)
                                  refine pw_bipush (v := (-2)) (px_at td_PR_rail 83 rfl) (by decide) ?_
                                  refine pw_goto 234 (px_at td_PR_rail 84 rfl) (by decide) ?_
                                  obtain rfl := Option.some.inj h
                                  exact pw_iret (px_at td_PR_rail 91 rfl) rfl (Nat.zero_le _) (Nat.zero_le _) hR
                                · refine pw_if_ge 222 (px_at td_PR_rail 82 rfl) (by decide) (fun _ => ?_) (fun hn => absurd (Int32.not_lt.mp hc) hn)
                                  refine pw_aload_n 0 (px_at td_PR_rail 85 rfl) rfl rfl ?_
                                  refine pw_getf (v := .inl (σ (3, 1, v1.toNatClampNeg) 11)) (px_at td_PR_rail 86 rfl) lf_PR_171 rfl rfl rfl ?_
                                  refine pw_aload_n 1 (px_at td_PR_rail 87 rfl) rfl rfl ?_
                                  refine pw_getf (v := .inr (some (2, 1, 0))) (px_at td_PR_rail 88 rfl) lf_PR_49 rfl rfl rfl ?_
                                  refine pw_getf (v := .inl (σ (2, 1, 0) 5)) (px_at td_PR_rail 89 rfl) lf_PR_92 rfl rfl rfl ?_
                                  refine pw_isub (px_at td_PR_rail 90 rfl) ?_
                                  obtain rfl := Option.some.inj h
                                  exact pw_iret (px_at td_PR_rail 91 rfl) rfl (Nat.zero_le _) (Nat.zero_le _) hR
                              · cases h
