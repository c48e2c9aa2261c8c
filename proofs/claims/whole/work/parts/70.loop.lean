/-! the loop -/
theorem lw_d40 : decode code 40 = .ok (.tableswitch 1168 0 32 #[148, 221, 246, 271, 296, 321, 374, 387, 424, 461, 529, 566, 619, 644, 681, 706, 731, 756, 781, 794, 843, 868, 881, 906, 943, 968, 993, 1006, 1043, 1104, 1117, 1130, 1143], 148) := by decide +kernel
theorem lw_and (x : Int32) : ∃ w, w < 64 ∧ x &&& 63 = dn w := by
  refine ⟨x.toBitVec.toNat &&& 63, ?_, ?_⟩
  · exact Nat.lt_of_le_of_lt Nat.and_le_right (by decide)
  · apply Int32.toBitVec_inj.mp
    apply BitVec.eq_of_toNat_eq
    have h0 : x.toBitVec.toNat &&& 63 ≤ 63 := Nat.and_le_right
    rw [Int32.toBitVec_and, BitVec.toNat_and]
    show x.toBitVec.toNat &&& 63 = (BitVec.ofNat 32 (x.toBitVec.toNat &&& 63)).toNat
    rw [BitVec.toNat_ofNat, Nat.mod_eq_of_lt (by omega)]
theorem lw_more {L t : Nat} (hL : L ≤ 3072) (ht : t ≤ L) : dn L - 6 < dn t ↔ L < t + 6 := by
  by_cases h : 6 ≤ L
  · have e : dn L - 6 = dn (L - 6) := dn_sub h
    rw [e, dn_lt (by omega) (by omega)]
    omega
  · have h6 : L = 0 ∨ L = 1 ∨ L = 2 ∨ L = 3 ∨ L = 4 ∨ L = 5 := by omega
    refine ⟨fun _ => by omega, fun _ => ?_⟩
    have h7 : dn L - 6 < dn 0 := by rcases h6 with rfl | rfl | rfl | rfl | rfl | rfl <;> decide
    have h8 : dn 0 ≤ dn t := (dn_le (by omega) (by omega)).mpr (Nat.zero_le _)
    exact Int32.lt_of_lt_of_le h7 h8
section LWL
variable {p : Program} {l : Launch} {e : Env} {s : State} {m : MethodId} {below : List Frame} {meth : Method} {c : Code} {b L : Nat} {xs : Nat → Int32} {D : va_G} {tA : Nat → ClassId} {adC adM : pxI → Nat} {cL : ClassId} {q0 : Nat}
theorem lw_case {σ μ : pxS} {g : Nat → Int64} {H : Heap} {locs : List Loc} {k n : Nat} {ls : Array Slot} {t : Nat} (hl : l.stackTraces = false) (hF : lw_F p s m meth c b L xs D tA adC adM cL q0) (hH : lw_H s D tA adC adM cL q0 σ μ g H locs) (hI : dInv σ μ) (hls : lw_L ls b adC adM q0 (dn t)) (ht : t + 6 ≤ L) (hk : k + 1 ≤ 601024 ∧ n + 6 ≤ 7293034)
    (kk : ∀ (H1 : Heap) (locs1 : List Loc) (ls1 : Array Slot) (σ1 μ1 : pxS) (g1 : Nat → Int64), lw_H s D tA adC adM cL q0 σ1 μ1 g1 H1 locs1 → dInv σ1 μ1 → lw_L ls1 b adC adM q0 (dn t) → lw_W p l e s m below meth c b H1 locs1 (k + 1) (n + 6) (F0 m 1208 ls1 [])) : lw_W p l e s m below meth c b H locs k n (F0 m 40 ls [.int (xs t &&& 63)]) := by
  have hx := hF.1.1
  have hb := hF.1.2.1
  obtain ⟨w, hw, e⟩ := lw_and (xs t)
  rw [e]
  by_cases h : w ≤ 32
  · have hc : w = 0 ∨ w = 1 ∨ w = 2 ∨ w = 3 ∨ w = 4 ∨ w = 5 ∨ w = 6 ∨ w = 7 ∨ w = 8 ∨ w = 9 ∨ w = 10 ∨ w = 11 ∨ w = 12 ∨ w = 13 ∨ w = 14 ∨ w = 15 ∨ w = 16 ∨ w = 17 ∨ w = 18 ∨ w = 19 ∨ w = 20 ∨ w = 21 ∨ w = 22 ∨ w = 23 ∨ w = 24 ∨ w = 25 ∨ w = 26 ∨ w = 27 ∨ w = 28 ∨ w = 29 ∨ w = 30 ∨ w = 31 ∨ w = 32 := by omega
    rcases hc with rfl | rfl | rfl | rfl | rfl | rfl | rfl | rfl | rfl | rfl | rfl | rfl | rfl | rfl | rfl | rfl | rfl | rfl | rfl | rfl | rfl | rfl | rfl | rfl | rfl | rfl | rfl | rfl | rfl | rfl | rfl | rfl | rfl
    · exact lv_tableIn (off := 148) (tgt := 188) hx hb lw_d40 (by decide) (by decide) rfl (by decide) (lw_k0 hF hH hI hls ht hk kk)
    · exact lv_tableIn (off := 221) (tgt := 261) hx hb lw_d40 (by decide) (by decide) rfl (by decide) (lw_k1 hF hH hI hls ht hk kk)
    · exact lv_tableIn (off := 246) (tgt := 286) hx hb lw_d40 (by decide) (by decide) rfl (by decide) (lw_k2 hF hH hI hls ht hk kk)
    · exact lv_tableIn (off := 271) (tgt := 311) hx hb lw_d40 (by decide) (by decide) rfl (by decide) (lw_k3 hF hH hI hls ht hk kk)
    · exact lv_tableIn (off := 296) (tgt := 336) hx hb lw_d40 (by decide) (by decide) rfl (by decide) (lw_k4 hF hH hI hls ht hk kk)
    · exact lv_tableIn (off := 321) (tgt := 361) hx hb lw_d40 (by decide) (by decide) rfl (by decide) (lw_k5 hF hH hI hls ht hk kk)
    · exact lv_tableIn (off := 374) (tgt := 414) hx hb lw_d40 (by decide) (by decide) rfl (by decide) (lw_k6 hF hH hI hls ht hk kk)
    · exact lv_tableIn (off := 387) (tgt := 427) hx hb lw_d40 (by decide) (by decide) rfl (by decide) (lw_k7 hF hH hI hls ht hk kk)
    · exact lv_tableIn (off := 424) (tgt := 464) hx hb lw_d40 (by decide) (by decide) rfl (by decide) (lw_k8 hF hH hI hls ht hk kk)
    · exact lv_tableIn (off := 461) (tgt := 501) hx hb lw_d40 (by decide) (by decide) rfl (by decide) (lw_k9 hl hF hH hI hls ht hk kk)
    · exact lv_tableIn (off := 529) (tgt := 569) hx hb lw_d40 (by decide) (by decide) rfl (by decide) (lw_k10 hF hH hI hls ht hk kk)
    · exact lv_tableIn (off := 566) (tgt := 606) hx hb lw_d40 (by decide) (by decide) rfl (by decide) (lw_k11 hF hH hI hls ht hk kk)
    · exact lv_tableIn (off := 619) (tgt := 659) hx hb lw_d40 (by decide) (by decide) rfl (by decide) (lw_k12 hF hH hI hls ht hk kk)
    · exact lv_tableIn (off := 644) (tgt := 684) hx hb lw_d40 (by decide) (by decide) rfl (by decide) (lw_k13 hF hH hI hls ht hk kk)
    · exact lv_tableIn (off := 681) (tgt := 721) hx hb lw_d40 (by decide) (by decide) rfl (by decide) (lw_k14 hF hH hI hls ht hk kk)
    · exact lv_tableIn (off := 706) (tgt := 746) hx hb lw_d40 (by decide) (by decide) rfl (by decide) (lw_k15 hF hH hI hls ht hk kk)
    · exact lv_tableIn (off := 731) (tgt := 771) hx hb lw_d40 (by decide) (by decide) rfl (by decide) (lw_k16 hF hH hI hls ht hk kk)
    · exact lv_tableIn (off := 756) (tgt := 796) hx hb lw_d40 (by decide) (by decide) rfl (by decide) (lw_k17 hF hH hI hls ht hk kk)
    · exact lv_tableIn (off := 781) (tgt := 821) hx hb lw_d40 (by decide) (by decide) rfl (by decide) (lw_k18 hF hH hI hls ht hk kk)
    · exact lv_tableIn (off := 794) (tgt := 834) hx hb lw_d40 (by decide) (by decide) rfl (by decide) (lw_k19 hF hH hI hls ht hk kk)
    · exact lv_tableIn (off := 843) (tgt := 883) hx hb lw_d40 (by decide) (by decide) rfl (by decide) (lw_k20 hF hH hI hls ht hk kk)
    · exact lv_tableIn (off := 868) (tgt := 908) hx hb lw_d40 (by decide) (by decide) rfl (by decide) (lw_k21 hF hH hI hls ht hk kk)
    · exact lv_tableIn (off := 881) (tgt := 921) hx hb lw_d40 (by decide) (by decide) rfl (by decide) (lw_k22 hF hH hI hls ht hk kk)
    · exact lv_tableIn (off := 906) (tgt := 946) hx hb lw_d40 (by decide) (by decide) rfl (by decide) (lw_k23 hF hH hI hls ht hk kk)
    · exact lv_tableIn (off := 943) (tgt := 983) hx hb lw_d40 (by decide) (by decide) rfl (by decide) (lw_k24 hF hH hI hls ht hk kk)
    · exact lv_tableIn (off := 968) (tgt := 1008) hx hb lw_d40 (by decide) (by decide) rfl (by decide) (lw_k25 hF hH hI hls ht hk kk)
    · exact lv_tableIn (off := 993) (tgt := 1033) hx hb lw_d40 (by decide) (by decide) rfl (by decide) (lw_k26 hF hH hI hls ht hk kk)
    · exact lv_tableIn (off := 1006) (tgt := 1046) hx hb lw_d40 (by decide) (by decide) rfl (by decide) (lw_k27 hF hH hI hls ht hk kk)
    · exact lv_tableIn (off := 1043) (tgt := 1083) hx hb lw_d40 (by decide) (by decide) rfl (by decide) (lw_k28 hF hH hI hls ht hk kk)
    · exact lv_tableIn (off := 1104) (tgt := 1144) hx hb lw_d40 (by decide) (by decide) rfl (by decide) (lw_k29 hF hH hI hls ht hk kk)
    · exact lv_tableIn (off := 1117) (tgt := 1157) hx hb lw_d40 (by decide) (by decide) rfl (by decide) (lw_k30 hF hH hI hls ht hk kk)
    · exact lv_tableIn (off := 1130) (tgt := 1170) hx hb lw_d40 (by decide) (by decide) rfl (by decide) (lw_k31 hF hH hI hls ht hk kk)
    · exact lv_tableIn (off := 1143) (tgt := 1183) hx hb lw_d40 (by decide) (by decide) rfl (by decide) (lw_k32 hF hH hI hls ht hk kk)
  · refine lv_tableOut (tgt := 1208) hx hb lw_d40 (Or.inr (by rw [dn_toInt (by omega)]; omega)) (by decide) ?_
    exact W.widen (Nat.le_add_right _ _) (Nat.le_add_right _ _) (kk _ _ _ _ _ _ hH hI hls)
theorem lw_loop (hl : l.stackTraces = false) (hF : lw_F p s m meth c b L xs D tA adC adM cL q0) : ∀ (f t k n : Nat) (σ μ : pxS) (g : Nat → Int64) (H : Heap) (locs : List Loc) (ls : Array Slot), L < 6 * t + 6 * f + 6 → 6 * t ≤ L → k ≤ 1000 + t → n ≤ 30000 + 6 * t → lw_H s D tA adC adM cL q0 σ μ g H locs → dInv σ μ → lw_L ls b adC adM q0 (dn (6 * t)) → lw_W p l e s m below meth c b H locs k n (F0 m 23 ls []) := by
  obtain ⟨hx, hb, hr, hml, hown, hts, hX, hbl, hlk, -⟩ := hF.1
  have hL := hF.2.1
  intro f
  induction f with
  | zero =>
    intro t k n σ μ g H locs ls h1 h2 h3 h4 hH hI hls
    refine lv_iload hx hb (show decode code 23 = .ok (.iload 4, 2) by decide +kernel) (lv_at hls 4 rfl) ?_
    refine lv_aload_n hx hb (show decode code 25 = .ok (.aload_n 0, 1) by decide +kernel) rfl (lv_at hls 0 rfl) ?_
    refine va_slen hx hb hX hbl hF.nb hH.2.2.2.1 (show decode code 26 = .ok (.arraylength, 1) by decide +kernel) ?_
    refine lv_bipush (v := 6) hx hb (show decode code 27 = .ok (.bipush 6, 2) by decide +kernel) (by decide) ?_
    refine lv_isub hx hb (show decode code 29 = .ok (.isub, 1) by decide +kernel) ?_
    refine lv_icmp_gt (tgt := 1214) hx hb (show decode code 30 = .ok (.if_icmp .gt 1184, 3) by decide +kernel) (by decide) (fun _ => ?_) (fun z => absurd ((lw_more hL h2).mpr (by omega)) z)
    refine lv_iconst (v := 1) hx hb (show decode code 1214 = .ok (.iconst 1, 1) by decide +kernel) (by decide) ?_
    refine va_forget (fun q hq => hH.2.2.2.1.2.2 q hq) ?_
    refine W.widen (k := 601024) (n := 7293034) (by omega) (by omega) ?_
    exact lw_ret hx hb hr hlk (show decode code 1215 = .ok (.ireturn, 1) by decide +kernel)
  | succ f ih =>
    intro t k n σ μ g H locs ls h1 h2 h3 h4 hH hI hls
    refine lv_iload hx hb (show decode code 23 = .ok (.iload 4, 2) by decide +kernel) (lv_at hls 4 rfl) ?_
    refine lv_aload_n hx hb (show decode code 25 = .ok (.aload_n 0, 1) by decide +kernel) rfl (lv_at hls 0 rfl) ?_
    refine va_slen hx hb hX hbl hF.nb hH.2.2.2.1 (show decode code 26 = .ok (.arraylength, 1) by decide +kernel) ?_
    refine lv_bipush (v := 6) hx hb (show decode code 27 = .ok (.bipush 6, 2) by decide +kernel) (by decide) ?_
    refine lv_isub hx hb (show decode code 29 = .ok (.isub, 1) by decide +kernel) ?_
    refine lv_icmp_gt (tgt := 1214) hx hb (show decode code 30 = .ok (.if_icmp .gt 1184, 3) by decide +kernel) (by decide) (fun _ => ?_) (fun z => ?_)
    · refine lv_iconst (v := 1) hx hb (show decode code 1214 = .ok (.iconst 1, 1) by decide +kernel) (by decide) ?_
      refine va_forget (fun q hq => hH.2.2.2.1.2.2 q hq) ?_
      refine W.widen (k := 601024) (n := 7293034) (by omega) (by omega) ?_
      exact lw_ret hx hb hr hlk (show decode code 1215 = .ok (.ireturn, 1) by decide +kernel)
    · have h6 : 6 * t + 6 ≤ L := by
        rcases Nat.lt_or_ge L (6 * t + 6) with h | h
        · exact absurd ((lw_more hL h2).mpr h) z
        · exact h
      refine lv_aload_n hx hb (show decode code 33 = .ok (.aload_n 0, 1) by decide +kernel) rfl (lv_at hls 0 rfl) ?_
      refine lv_iload hx hb (show decode code 34 = .ok (.iload 4, 2) by decide +kernel) (lv_at hls 4 rfl) ?_
      refine va_sld hx hb hX hbl hF.nb hH.2.2.2.1 (lw_in (t := 6 * t) (by omega) hL) (show decode code 36 = .ok (.iaload, 1) by decide +kernel) ?_
      rw [dn_nat (show 6 * t < 2147483648 by omega)]
      refine lv_bipush (v := 63) hx hb (show decode code 37 = .ok (.bipush 63, 2) by decide +kernel) (by decide) ?_
      refine lv_iand hx hb (show decode code 39 = .ok (.iand, 1) by decide +kernel) ?_
      refine lw_case hl hF hH hI hls h6 ⟨by omega, by omega⟩ fun H1 locs1 ls1 σ1 μ1 g1 hH hI hls => ?_
      refine lv_iinc (k := 4) (v := dn (6 * (t + 1))) (lv' := [(4, .int (dn (6 * (t + 1)))), (0, .ref b), (1, .ref (adC (0, 0, 0))), (2, .ref (adM (0, 0, 0))), (3, .ref q0)]) hx hb (show decode code 1208 = .ok (.iinc 4 6, 3) by decide +kernel) hls rfl (by show dn (6 * t) + dn 6 = _; rw [dn_add]; rfl) (by decide) rfl fun ls2 hls2 => ?_
      refine lv_goto (tgt := 23) hx hb (show decode code 1211 = .ok (.goto (-1188), 3) by decide +kernel) (by decide) ?_
      exact ih (t + 1) (k + 1) (n + 6) σ1 μ1 g1 H1 locs1 ls2 (by omega) (by omega) (by omega) (by omega) hH hI (lv_sub hls2 [1, 2, 3, 4, 0] rfl)
end LWL
