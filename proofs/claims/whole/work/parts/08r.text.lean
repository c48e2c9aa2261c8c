def ys_cod : MethodName := ⟨"java/lang/String", "coder", "()B"⟩
abbrev cs_cod : ByteArray := prog_19_method_152_code
theorem ds_cod_0 : decode cs_cod 0 = .ok (.getstatic 38, 3) := by decide +kernel
theorem ds_cod_3 : decode cs_cod 3 = .ok (.ifCond .eq 10, 3) := by decide +kernel
theorem ds_cod_6 : decode cs_cod 6 = .ok (.aload_n 0, 1) := by decide +kernel
theorem ds_cod_7 : decode cs_cod 7 = .ok (.getfield 15, 3) := by decide +kernel
theorem ds_cod_10 : decode cs_cod 10 = .ok (.goto 4, 3) := by decide +kernel
theorem ds_cod_13 : decode cs_cod 13 = .ok (.iconst 1, 1) := by decide +kernel
theorem ds_cod_14 : decode cs_cod 14 = .ok (.ireturn, 1) := by decide +kernel
def ys_len : MethodName := ⟨"java/lang/String", "length", "()I"⟩
abbrev cs_len : ByteArray := prog_19_method_54_code
theorem ds_len_0 : decode cs_len 0 = .ok (.aload_n 0, 1) := by decide +kernel
theorem ds_len_1 : decode cs_len 1 = .ok (.getfield 9, 3) := by decide +kernel
theorem ds_len_4 : decode cs_len 4 = .ok (.arraylength, 1) := by decide +kernel
theorem ds_len_5 : decode cs_len 5 = .ok (.aload_n 0, 1) := by decide +kernel
theorem ds_len_6 : decode cs_len 6 = .ok (.invokevirtual 335, 3) := by decide +kernel
theorem ds_len_9 : decode cs_len 9 = .ok (.ishr, 1) := by decide +kernel
theorem ds_len_10 : decode cs_len 10 = .ok (.ireturn, 1) := by decide +kernel
def ys_lat : MethodName := ⟨"java/lang/String", "isLatin1", "()Z"⟩
abbrev cs_lat : ByteArray := prog_19_method_154_code
theorem ds_lat_0 : decode cs_lat 0 = .ok (.getstatic 38, 3) := by decide +kernel
theorem ds_lat_3 : decode cs_lat 3 = .ok (.ifCond .eq 14, 3) := by decide +kernel
theorem ds_lat_6 : decode cs_lat 6 = .ok (.aload_n 0, 1) := by decide +kernel
theorem ds_lat_7 : decode cs_lat 7 = .ok (.getfield 15, 3) := by decide +kernel
theorem ds_lat_10 : decode cs_lat 10 = .ok (.ifCond .ne 7, 3) := by decide +kernel
theorem ds_lat_13 : decode cs_lat 13 = .ok (.iconst 1, 1) := by decide +kernel
theorem ds_lat_14 : decode cs_lat 14 = .ok (.goto 4, 3) := by decide +kernel
theorem ds_lat_17 : decode cs_lat 17 = .ok (.iconst 0, 1) := by decide +kernel
theorem ds_lat_18 : decode cs_lat 18 = .ok (.ireturn, 1) := by decide +kernel
def ys_chk : MethodName := ⟨"jdk/internal/util/Preconditions", "checkIndex", "(IILjava/util/function/BiFunction;)I"⟩
abbrev cs_chk : ByteArray := prog_27_method_11_code
theorem ds_chk_0 : decode cs_chk 0 = .ok (.iload_n 0, 1) := by decide +kernel
theorem ds_chk_1 : decode cs_chk 1 = .ok (.ifCond .lt 8, 3) := by decide +kernel
theorem ds_chk_4 : decode cs_chk 4 = .ok (.iload_n 0, 1) := by decide +kernel
theorem ds_chk_5 : decode cs_chk 5 = .ok (.iload_n 1, 1) := by decide +kernel
theorem ds_chk_6 : decode cs_chk 6 = .ok (.if_icmp .lt 10, 3) := by decide +kernel
theorem ds_chk_9 : decode cs_chk 9 = .ok (.aload_n 2, 1) := by decide +kernel
theorem ds_chk_10 : decode cs_chk 10 = .ok (.iload_n 0, 1) := by decide +kernel
theorem ds_chk_11 : decode cs_chk 11 = .ok (.iload_n 1, 1) := by decide +kernel
theorem ds_chk_12 : decode cs_chk 12 = .ok (.invokestatic 95, 3) := by decide +kernel
theorem ds_chk_15 : decode cs_chk 15 = .ok (.athrow, 1) := by decide +kernel
theorem ds_chk_16 : decode cs_chk 16 = .ok (.iload_n 0, 1) := by decide +kernel
theorem ds_chk_17 : decode cs_chk 17 = .ok (.ireturn, 1) := by decide +kernel
def ys_sck : MethodName := ⟨"java/lang/String", "checkIndex", "(II)V"⟩
abbrev cs_sck : ByteArray := prog_19_method_155_code
theorem ds_sck_0 : decode cs_sck 0 = .ok (.iload_n 0, 1) := by decide +kernel
theorem ds_sck_1 : decode cs_sck 1 = .ok (.iload_n 1, 1) := by decide +kernel
theorem ds_sck_2 : decode cs_sck 2 = .ok (.getstatic 1053, 3) := by decide +kernel
theorem ds_sck_5 : decode cs_sck 5 = .ok (.invokestatic 1059, 3) := by decide +kernel
theorem ds_sck_8 : decode cs_sck 8 = .ok (.pop, 1) := by decide +kernel
theorem ds_sck_9 : decode cs_sck 9 = .ok (.return_, 1) := by decide +kernel
def ys_lch : MethodName := ⟨"java/lang/StringLatin1", "charAt", "([BI)C"⟩
abbrev cs_lch : ByteArray := prog_20_method_2_code
theorem ds_lch_0 : decode cs_lch 0 = .ok (.iload_n 1, 1) := by decide +kernel
theorem ds_lch_1 : decode cs_lch 1 = .ok (.aload_n 0, 1) := by decide +kernel
theorem ds_lch_2 : decode cs_lch 2 = .ok (.arraylength, 1) := by decide +kernel
theorem ds_lch_3 : decode cs_lch 3 = .ok (.invokestatic 9, 3) := by decide +kernel
theorem ds_lch_6 : decode cs_lch 6 = .ok (.aload_n 0, 1) := by decide +kernel
theorem ds_lch_7 : decode cs_lch 7 = .ok (.iload_n 1, 1) := by decide +kernel
theorem ds_lch_8 : decode cs_lch 8 = .ok (.baload, 1) := by decide +kernel
theorem ds_lch_9 : decode cs_lch 9 = .ok (.sipush 255, 3) := by decide +kernel
theorem ds_lch_12 : decode cs_lch 12 = .ok (.iand, 1) := by decide +kernel
theorem ds_lch_13 : decode cs_lch 13 = .ok (.i2c, 1) := by decide +kernel
theorem ds_lch_14 : decode cs_lch 14 = .ok (.ireturn, 1) := by decide +kernel
def ys_cha : MethodName := ⟨"java/lang/String", "charAt", "(I)C"⟩
abbrev cs_cha : ByteArray := prog_19_method_56_code
theorem ds_cha_0 : decode cs_cha 0 = .ok (.aload_n 0, 1) := by decide +kernel
theorem ds_cha_1 : decode cs_cha 1 = .ok (.invokevirtual 492, 3) := by decide +kernel
theorem ds_cha_4 : decode cs_cha 4 = .ok (.ifCond .eq 12, 3) := by decide +kernel
theorem ds_cha_7 : decode cs_cha 7 = .ok (.aload_n 0, 1) := by decide +kernel
theorem ds_cha_8 : decode cs_cha 8 = .ok (.getfield 9, 3) := by decide +kernel
theorem ds_cha_11 : decode cs_cha 11 = .ok (.iload_n 1, 1) := by decide +kernel
theorem ds_cha_12 : decode cs_cha 12 = .ok (.invokestatic 495, 3) := by decide +kernel
theorem ds_cha_15 : decode cs_cha 15 = .ok (.ireturn, 1) := by decide +kernel
theorem ds_cha_16 : decode cs_cha 16 = .ok (.aload_n 0, 1) := by decide +kernel
theorem ds_cha_17 : decode cs_cha 17 = .ok (.getfield 9, 3) := by decide +kernel
theorem ds_cha_20 : decode cs_cha 20 = .ok (.iload_n 1, 1) := by decide +kernel
theorem ds_cha_21 : decode cs_cha 21 = .ok (.invokestatic 498, 3) := by decide +kernel
theorem ds_cha_24 : decode cs_cha 24 = .ok (.ireturn, 1) := by decide +kernel
theorem ws_cod : Cond.code ys_cod cs_cod 1 (some .byte) ∈ pxW := (px_w 254 (by decide +kernel) (by decide +kernel))
theorem ws_len : Cond.code ys_len cs_len 1 (some .int) ∈ pxW := (px_w 250 (by decide +kernel) (by decide +kernel))
theorem ws_lat : Cond.code ys_lat cs_lat 1 (some .boolean) ∈ pxW := (px_w 264 (by decide +kernel) (by decide +kernel))
theorem ws_chk : Cond.code ys_chk cs_chk 3 (some .int) ∈ pxW := (px_w 275 (by decide +kernel) (by decide +kernel))
theorem ws_sck : Cond.code ys_sck cs_sck 2 none ∈ pxW := (px_w 270 (by decide +kernel) (by decide +kernel))
theorem ws_lch : Cond.code ys_lch cs_lch 2 (some .char) ∈ pxW := (px_w 267 (by decide +kernel) (by decide +kernel))
theorem ws_cha : Cond.code ys_cha cs_cha 2 (some .char) ∈ pxW := (px_w 260 (by decide +kernel) (by decide +kernel))
theorem wv_cod : Cond.instanceMethod ys_cod ∈ pxW ∧ Cond.selects "java/lang/String" ys_cod ys_cod ∈ pxW := ⟨(px_w 252 (by decide +kernel) (by decide +kernel)), (px_w 253 (by decide +kernel) (by decide +kernel))⟩
theorem wv_lat : Cond.instanceMethod ys_lat ∈ pxW ∧ Cond.selects "java/lang/String" ys_lat ys_lat ∈ pxW := ⟨(px_w 262 (by decide +kernel) (by decide +kernel)), (px_w 263 (by decide +kernel) (by decide +kernel))⟩
theorem wv_len : Cond.instanceMethod ys_len ∈ pxW ∧ Cond.selects "java/lang/String" ys_len ys_len ∈ pxW := ⟨(px_w 248 (by decide +kernel) (by decide +kernel)), (px_w 249 (by decide +kernel) (by decide +kernel))⟩
theorem wv_cha : Cond.instanceMethod ys_cha ∈ pxW ∧ Cond.selects "java/lang/String" ys_cha ys_cha ∈ pxW := ⟨(px_w 258 (by decide +kernel) (by decide +kernel)), (px_w 259 (by decide +kernel) (by decide +kernel))⟩
theorem wt_chk : Cond.static ys_chk ∈ pxW := (px_w 274 (by decide +kernel) (by decide +kernel))
theorem wt_sck : Cond.static ys_sck ∈ pxW := (px_w 269 (by decide +kernel) (by decide +kernel))
theorem wt_lch : Cond.static ys_lch ∈ pxW := (px_w 266 (by decide +kernel) (by decide +kernel))
theorem wn_St : Cond.initialized "java/lang/String" ∈ pxW := (px_w 103 (by decide +kernel) (by decide +kernel))
theorem wn_S1 : Cond.initialized "java/lang/StringLatin1" ∈ pxW := (px_w 104 (by decide +kernel) (by decide +kernel))
theorem wn_Pr : Cond.initialized "jdk/internal/util/Preconditions" ∈ pxW := (px_w 105 (by decide +kernel) (by decide +kernel))
theorem wf_38 : Cond.fieldLink "java/lang/String" 38 "java/lang/String" "COMPACT_STRINGS" "Z" ∈ pxW := (px_w 255 (by decide +kernel) (by decide +kernel))
theorem wf_15 : Cond.fieldLink "java/lang/String" 15 "java/lang/String" "coder" "B" ∈ pxW := (px_w 1655 (by decide +kernel) (by decide +kernel))
theorem wf_9 : Cond.fieldLink "java/lang/String" 9 "java/lang/String" "value" "[B" ∈ pxW := (px_w 1654 (by decide +kernel) (by decide +kernel))
theorem wf_1053 : Cond.fieldLink "java/lang/String" 1053 "jdk/internal/util/Preconditions" "SIOOBE_FORMATTER" "Ljava/util/function/BiFunction;" ∈ pxW := (px_w 271 (by decide +kernel) (by decide +kernel))
theorem wm_335 : Cond.methodLink "java/lang/String" 335 ys_cod ∈ pxW := (px_w 251 (by decide +kernel) (by decide +kernel))
theorem wm_492 : Cond.methodLink "java/lang/String" 492 ys_lat ∈ pxW := (px_w 261 (by decide +kernel) (by decide +kernel))
theorem wm_495 : Cond.methodLink "java/lang/String" 495 ys_lch ∈ pxW := (px_w 265 (by decide +kernel) (by decide +kernel))
theorem wm_1059 : Cond.methodLink "java/lang/String" 1059 ys_chk ∈ pxW := (px_w 273 (by decide +kernel) (by decide +kernel))
theorem wm_9 : Cond.methodLink "java/lang/StringLatin1" 9 ys_sck ∈ pxW := (px_w 268 (by decide +kernel) (by decide +kernel))
def px_T0 : Nat → Prop := fun _ => False
/-- a text at its place, whatever else the heap holds -/
def px_T (i aK aV : Nat) (U : State) (H : Heap) : Prop := va_O "java/lang/String" aK px_T0 U H ∧ va_OF "java/lang/String" "coder" "B" (.int 0) aK px_T0 U H ∧ va_OF "java/lang/String" "value" "[B" (.ref aV) aK px_T0 U H ∧ va_T .byte aV (px_len.getD i 0) (fun j => .int ((px_byt.getD i []).getD j 0)) px_T0 U H ∧
  va_Z "java/lang/String" "COMPACT_STRINGS" "Z" (.int 1) px_T0 U H ∧ va_Zq "jdk/internal/util/Preconditions" "SIOOBE_FORMATTER" "Ljava/util/function/BiFunction;" px_T0 U H
theorem px_T.move {i aK aV : Nat} {s U : State} (h : px_T i aK aV s s.heap) (hW : s.WarmedH U.vm) (hU : U.heap = s.heap) : px_T i aK aV U U.heap := by
  obtain ⟨h1, h2, h3, h4, h5, h6⟩ := h
  rw [hU]
  exact ⟨h1.moved hW.alike, h2.moved hW.alike, h3.moved hW.alike, h4.moved hW.alike, h5.moved hW.alike, h6.moved hW.alike⟩
theorem px_T.calling {i aK aV : Nat} {U : State} {g : JFrame} {mk : MethodId} {a : Array Value} (h : px_T i aK aV U U.heap) : px_T i aK aV (U.calling g mk a) (U.calling g mk a).heap := by
  obtain ⟨h1, h2, h3, h4, h5, h6⟩ := h
  exact ⟨h1.moved (u := U) (U := U.calling g mk a) (Vm.Alike.refl U.vm), h2.moved (u := U) (U := U.calling g mk a) (Vm.Alike.refl U.vm), h3.moved (u := U) (U := U.calling g mk a) (Vm.Alike.refl U.vm), h4.moved (u := U) (U := U.calling g mk a) (Vm.Alike.refl U.vm), h5.moved (u := U) (U := U.calling g mk a) (Vm.Alike.refl U.vm), h6.moved (u := U) (U := U.calling g mk a) (Vm.Alike.refl U.vm)⟩
def px_TP (i aK aV : Nat) (as : List Value) : Array Value → State → Prop := fun v U => v = as.toArray ∧ px_T i aK aV U U.heap
theorem px_TP_b (i aK aV : Nat) (as : List Value) : FrameBlind (px_TP i aK aV as) := fun a U g mk h => ⟨h.1, h.2.calling⟩
def px_TQ (v : Option Value) : Array Value → State → Outcome → State → Prop := fun _ st o t => o = .returned v ∧ t.heap = st.heap
abbrev px_Ro (d : Nat) : Room := { frames := d, cells := 0, slots := 0, locals := 40 * d }
section PXS
variable {p : Program} {l : Launch} {e : Env} {R : Room} {s : State} {m : MethodId} {args : Array Value} {below : List Frame} {meth : Method} {c : Code} {H : Heap} {locs : List Loc} {cells slots : Nat} {Q : State → Prop} {pc : Nat} {ls : Array Slot} {rest st0 : List Value} {a : Array Value}
theorem px_callT {v : Option Value} {free : Addr → Prop} (hfr : ∀ q, ¬ free q) (hr : va_Run p l e R s m args below meth c H locs cells slots 0 0 (F0 m pc ls st0) rest (px_TQ v a) free) (kk : W p l e R s m args below meth c H locs cells slots Q (F0 m (pc + 3) ls (v.toList ++ rest))) : W p l e R s m args below meth c H locs cells slots Q (F0 m pc ls st0) := by
  intro T hT X
  obtain ⟨v', st₀, t, T', L, h0, X', hL, e1, e2, ⟨hv, hh⟩, st⟩ := hr T hT X
  cases hv
  obtain ⟨t2, a1, b1⟩ := kk T' (by rw [e1, hh, h0]) (Stand.forget X' (fun q h => (hfr _ (hL q h)).elim))
  exact ⟨t2, st t2 a1, b1⟩
end PXS
theorem px_TW {l : Launch} {y : MethodName} {cc : ByteArray} {nL : Nat} {ret : Option FieldType} {d : Nat} {i aK aV : Nat} {as : List Value} {v : Option Value} (hy : plainFor y = true) (hn : (lg_sl as).length ≤ nL)
    (body : ∀ (p : Program) (e : Env) (s : State) (m : MethodId) (below : List Frame) (meth : Method) (c : Code) (ls : Array Slot), p.tables.exec = Jvm.exec → c.code = cc → meth.sig.returnType = ret → c.maxLocals = nL → (∀ w ∈ pxW, w.before as.toArray s = true) → s.vm.findClass y.cls = some m.cls → meth.locks = false → px_T i aK aV s s.heap → lv_has ls nL (lv_args 0 as) →
      W p l e (px_Ro d) s m as.toArray below meth c s.heap [] 0 0 (MQ below (px_TQ v) as.toArray s 0 0 (fun _ => False)) (F0 m 0 ls [])) : Met l y (pxws y cc nL ret) (px_Ro d) (px_TP i aK aV as) (px_TQ v) 0 0 (fun _ => False) := by
  refine va_MetF (cc := cc) (maxL := nL) (ret := ret) hy rfl ?_
  intro p e s m args below meth c s₁ B hml hv
  obtain ⟨rfl, hT⟩ := hv
  have hts := atoms_spec (ws := pxws y cc nL ret) B.pre
  rw [lg_entry_eq]
  exact body p e s m below meth c _ B.exec B.bytes B.returns hml (fun w hw => hts w (List.mem_cons_of_mem _ hw)) (findClass_of_methodNamed B.named) B.notSynchronized hT (lv_entry _ hn)
set_option maxRecDepth 100000 in
theorem ks_cod (l : Launch) (i aK aV : Nat) : Met l ys_cod (pxws ys_cod cs_cod 1 (some .byte)) (px_Ro 1) (px_TP i aK aV [.ref aK]) (px_TQ (some (.int 0))) 0 0 (fun _ => False) := by
  refine px_TW (by decide +kernel) (Nat.le_of_ble_eq_true rfl) ?_
  intro p e s m below meth c ls hx hb hr hml hts hown hlk hT hl
  obtain ⟨hO, hc, hv, hV, hZ, hZq⟩ := id hT
  have hS : va_S px_T0 s.heap s.heap [] := va_S.rf
  have hl : lv_has ls 1 ([(0, .ref aK)]) := hl
  refine va_gets hx hb hZ hS hown (hts _ wf_38) (fun _ h => h) ds_cod_0 ?_
  refine lv_if_eq (tgt := 13) hx hb ds_cod_3 (by decide) (fun h => absurd h (by decide)) (fun _ => ?_)
  refine lv_aload_n hx hb ds_cod_6 rfl (lv_at hl 0 rfl) ?_
  refine vk_getf hx hb hc hS hown (hts _ wf_15) (fun _ h => h) ds_cod_7 ?_
  refine lv_goto (tgt := 14) hx hb ds_cod_10 (by decide) ?_
  exact W.zret (v := 0) hx hb hr (by decide +kernel) (fun t ht _ => ⟨rfl, ht⟩) hS.2.2 ds_cod_14 hlk
set_option maxRecDepth 100000 in
theorem ks_lat (l : Launch) (i aK aV : Nat) : Met l ys_lat (pxws ys_lat cs_lat 1 (some .boolean)) (px_Ro 1) (px_TP i aK aV [.ref aK]) (px_TQ (some (.int 1))) 0 0 (fun _ => False) := by
  refine px_TW (by decide +kernel) (Nat.le_of_ble_eq_true rfl) ?_
  intro p e s m below meth c ls hx hb hr hml hts hown hlk hT hl
  obtain ⟨hO, hc, hv, hV, hZ, hZq⟩ := id hT
  have hS : va_S px_T0 s.heap s.heap [] := va_S.rf
  have hl : lv_has ls 1 ([(0, .ref aK)]) := hl
  refine va_gets hx hb hZ hS hown (hts _ wf_38) (fun _ h => h) ds_lat_0 ?_
  refine lv_if_eq (tgt := 17) hx hb ds_lat_3 (by decide) (fun h => absurd h (by decide)) (fun _ => ?_)
  refine lv_aload_n hx hb ds_lat_6 rfl (lv_at hl 0 rfl) ?_
  refine vk_getf hx hb hc hS hown (hts _ wf_15) (fun _ h => h) ds_lat_7 ?_
  refine lv_if_ne (tgt := 17) hx hb ds_lat_10 (by decide) (fun h => absurd rfl h) (fun _ => ?_)
  refine lv_iconst (v := 1) hx hb ds_lat_13 (by decide) ?_
  refine lv_goto (tgt := 18) hx hb ds_lat_14 (by decide) ?_
  exact W.zret (v := 1) hx hb hr (by decide +kernel) (fun t ht _ => ⟨rfl, ht⟩) hS.2.2 ds_lat_18 hlk
set_option maxRecDepth 100000 in
theorem ks_chk (l : Launch) (i aK aV : Nat) {x n : Int32} {f : Value} (h0 : ¬ x < 0) (h1 : x < n) (hf : f = .null ∨ ∃ q, f = .ref q) : Met l ys_chk (pxws ys_chk cs_chk 3 (some .int)) (px_Ro 1) (px_TP i aK aV [.int x, .int n, f]) (px_TQ (some (.int x))) 0 0 (fun _ => False) := by
  refine px_TW (by decide +kernel) (by rcases hf with rfl | ⟨q, rfl⟩ <;> exact Nat.le_of_ble_eq_true rfl) ?_
  intro p e s m below meth c ls hx hb hr hml hts hown hlk hT hl
  obtain ⟨hO, hc, hv, hV, hZ, hZq⟩ := id hT
  have hS : va_S px_T0 s.heap s.heap [] := va_S.rf
  have hl : lv_has ls 3 ([(0, .int x), (1, .int n)]) := lv_sub hl [0, 1] (by rcases hf with rfl | ⟨q, rfl⟩ <;> rfl)
  refine lv_iload_n hx hb ds_chk_0 rfl (lv_at hl 0 rfl) ?_
  refine lv_if_lt (tgt := 9) hx hb ds_chk_1 (by decide) (fun h => absurd h h0) (fun _ => ?_)
  refine lv_iload_n hx hb ds_chk_4 rfl (lv_at hl 0 rfl) ?_
  refine lv_iload_n hx hb ds_chk_5 rfl (lv_at hl 1 rfl) ?_
  refine lv_icmp_lt (tgt := 16) hx hb ds_chk_6 (by decide) (fun _ => ?_) (fun h => absurd h1 h)
  refine lv_iload_n hx hb ds_chk_16 rfl (lv_at hl 0 rfl) ?_
  exact W.iret (v := x) hx hb hr (fun t ht _ => ⟨rfl, ht⟩) hS.2.2 ds_chk_17 hlk
theorem px_Trecv {aK : Nat} {s : State} (h : va_O "java/lang/String" aK px_T0 s s.heap) : ∃ cell : Cell, s.heap[aK]? = some cell ∧ cell.vm.isStatics = false ∧ s.vm.findClass "java/lang/String" = some cell.cls := by
  obtain ⟨cell, h1, h2, h3, -⟩ := h
  exact ⟨cell, h1, h2, h3⟩
set_option maxRecDepth 100000 in
theorem ks_sck (l : Launch) (i aK aV : Nat) {x n : Int32} (h0 : ¬ x < 0) (h1 : x < n) : Met l ys_sck (pxws ys_sck cs_sck 2 none) (px_Ro 2) (px_TP i aK aV [.int x, .int n]) (px_TQ none) 0 0 (fun _ => False) := by
  refine px_TW (by decide +kernel) (Nat.le_of_ble_eq_true rfl) ?_
  intro p e s m below meth c ls hx hb hr hml hts hown hlk hT hl
  obtain ⟨hO, hc, hv, hV, hZ, hZq⟩ := id hT
  have hS : va_S px_T0 s.heap s.heap [] := va_S.rf
  have hl : lv_has ls 2 ([(0, .int x), (1, .int n)]) := hl
  have hgo : ∀ f : Value, (f = .null ∨ ∃ q, f = .ref q) → W p l e (px_Ro 2) s m _ below meth c s.heap [] 0 0 (MQ below (px_TQ none) _ s 0 0 (fun _ => False)) (F0 m (0 + 1 + 1 + 3) ls [f, .int n, .int x]) := fun f hf => by
    refine px_callT (fun _ h => h) (va_runS (As := [.int x, .int n, f]) (n := 3) (rest := []) (Ts := pxW) ⟨hx, hb, hml, hown, hts⟩ (ks_chk l i aK aV h0 h1 hf) ⟨callB_of 3 hts (px_good ws_chk) rfl rfl rfl (hts _ wn_Pr) (hts _ wm_1059) ⟨by decide +kernel, by decide +kernel, by decide +kernel⟩ ⟨by decide, by decide⟩, hts _ wt_chk⟩ ⟨px_TP_b _ _ _ _, fun U hU hW => ⟨rfl, hT.move hW hU⟩⟩ rfl rfl hl.1 rfl (lv_room (Nat.le_of_ble_eq_true rfl)) ds_sck_5 ⟨Nat.le_refl 0, Nat.le_refl 0⟩) ?_
    refine lv_pop hx hb ds_sck_8 rfl ?_
    exact W.vret hx hb hr (fun t ht _ => ⟨rfl, ht⟩) hS.2.2 ds_sck_9 hlk
  refine lv_iload_n hx hb ds_sck_0 rfl (lv_at hl 0 rfl) ?_
  refine lv_iload_n hx hb ds_sck_1 rfl (lv_at hl 1 rfl) ?_
  rcases hZq with hZq | ⟨t, hZq⟩
  · exact va_gets hx hb hZq hS hown (hts _ wf_1053) (fun _ h => h) ds_sck_2 (hgo _ (Or.inl rfl))
  · exact va_gets hx hb hZq hS hown (hts _ wf_1053) (fun _ h => h) ds_sck_2 (hgo _ (Or.inr ⟨t, rfl⟩))
theorem px_chr_k : ∀ i, i < 2 → (px_byt.getD i []).length = px_len.getD i 0 ∧ ∀ b ∈ px_byt.getD i [], narrow .char (.int ((b &&& 255).toUInt32 % 65536).toInt32) = .int ((b &&& 255).toUInt32 % 65536).toInt32 ∧ ((b &&& 255).toUInt32 % 65536).toInt32 = b &&& 255 := by decide +kernel
def px_chr (i j : Nat) : Int32 := (px_byt.getD i []).getD j 0 &&& 255
theorem px_chr_n {i j : Nat} (hi : i < 2) (hj : j < px_len.getD i 0) : ((((px_byt.getD i []).getD j 0) &&& 255).toUInt32 % 65536).toInt32 = px_chr i j ∧ narrow .char (.int (px_chr i j)) = .int (px_chr i j) := by
  obtain ⟨h1, h2⟩ := px_chr_k i hi
  have hm : (px_byt.getD i []).getD j 0 ∈ px_byt.getD i [] := by
    have hl : j < (px_byt.getD i []).length := by rw [h1]; exact hj
    generalize px_byt.getD i [] = b at hl ⊢
    rw [List.getD_eq_getElem?_getD, List.getElem?_eq_getElem hl]
    exact List.getElem_mem hl
  obtain ⟨h3, h4⟩ := h2 _ hm
  exact ⟨h4, by unfold px_chr; rw [h4] at h3; exact h3⟩
theorem px_len_s : ∀ i, i < 2 → px_len.getD i 0 < 2 ^ 31 := by decide
theorem px_lt_of {x : Int32} {n : Nat} (h0 : ¬ x < 0) (h1 : x.toNatClampNeg < n) (hn : n < 2 ^ 31) : x < Int32.ofNat n := by
  obtain ⟨j, hj, rfl⟩ := nI_of h0
  rw [nI_clamp hj] at h1
  exact nI_lt h1 hn
section PXL
variable {p : Program} {l : Launch} {e : Env} {R : Room} {s : State} {m : MethodId} {args : Array Value} {below : List Frame} {meth : Method} {c : Code} {H : Heap} {locs : List Loc} {cells slots : Nat} {Q : State → Prop} {cc : ByteArray} {pc : Nat} {ls : Array Slot} {rest : List Value}
theorem va_tln {A : Nat → Prop} {t N : Nat} {f : Nat → Value} (hexec : p.tables.exec = Jvm.exec) (hb : c.code = cc) (hT : va_T .byte t N f A s s.heap) (hS : va_S A s.heap H locs) (hdg : decode cc pc = .ok (.arraylength, 1))
    (kk : W p l e R s m args below meth c H locs cells slots Q (F0 m (pc + 1) ls (.int (Int32.ofNat N) :: rest))) : W p l e R s m args below meth c H locs cells slots Q (F0 m pc ls (.ref t :: rest)) := by
  obtain ⟨cell, h1, h2, h3, h4, h5, h6, h7⟩ := hT
  exact W.alen (n := Int32.ofNat N) hexec hb (by rw [hS.2.1 t (Array.getElem?_eq_some_iff.mp h1).1 h7]; exact h1) h2 h5 rfl rfl hdg kk
end PXL
set_option maxRecDepth 100000 in
theorem ks_lch (l : Launch) (i aK aV : Nat) (hi : i < 2) {x : Int32} (hin : vp_in x (px_len.getD i 0)) : Met l ys_lch (pxws ys_lch cs_lch 2 (some .char)) (px_Ro 3) (px_TP i aK aV [.ref aV, .int x]) (px_TQ (some (.int (px_chr i x.toNatClampNeg)))) 0 0 (fun _ => False) := by
  refine px_TW (by decide +kernel) (Nat.le_of_ble_eq_true rfl) ?_
  intro p e s m below meth c ls hx hb hr hml hts hown hlk hT hl
  obtain ⟨hO, hc, hv, hV, hZ, hZq⟩ := id hT
  have hS : va_S px_T0 s.heap s.heap [] := va_S.rf
  have hl : lv_has ls 2 ([(0, .ref aV), (1, .int x)]) := hl
  have hlt : x.toNatClampNeg < px_len.getD i 0 := Nat.not_le.mp fun q => hin (Or.inr q)
  have h0 : ¬ x < 0 := fun q => hin (Or.inl q)
  have hlen : px_len.getD i 0 < 2 ^ 31 := px_len_s i hi
  have h1 : x < Int32.ofNat (px_len.getD i 0) := px_lt_of h0 hlt hlen
  obtain ⟨c1, c2⟩ := px_chr_n hi hlt
  refine lv_iload_n hx hb ds_lch_0 rfl (lv_at hl 1 rfl) ?_
  refine lv_aload_n hx hb ds_lch_1 rfl (lv_at hl 0 rfl) ?_
  refine va_tln hx hb hV hS ds_lch_2 ?_
  refine px_callT (fun _ h => h) (va_runS (As := [.int x, .int (Int32.ofNat (px_len.getD i 0))]) (n := 2) (rest := []) (Ts := pxW) ⟨hx, hb, hml, hown, hts⟩ (ks_sck l i aK aV h0 h1) ⟨callB_of 2 hts (px_good ws_sck) rfl rfl rfl (hts _ wn_St) (hts _ wm_9) ⟨by decide +kernel, by decide +kernel, by decide +kernel⟩ ⟨by decide, by decide⟩, hts _ wt_sck⟩ ⟨px_TP_b _ _ _ _, fun U hU hW => ⟨rfl, hT.move hW hU⟩⟩ rfl rfl hl.1 rfl (lv_room (Nat.le_of_ble_eq_true rfl)) ds_lch_3 ⟨Nat.le_refl 0, Nat.le_refl 0⟩) ?_
  refine lv_aload_n hx hb ds_lch_6 rfl (lv_at hl 0 rfl) ?_
  refine lv_iload_n hx hb ds_lch_7 rfl (lv_at hl 1 rfl) ?_
  refine va_tb hx hb hV hS hin rfl ds_lch_8 ?_
  refine lv_sipush (v := 255) hx hb ds_lch_9 (by decide) ?_
  refine lv_iand hx hb ds_lch_12 ?_
  refine lv_i2c hx hb ds_lch_13 c1 ?_
  exact W.zret (v := px_chr i x.toNatClampNeg) hx hb hr c2 (fun t ht _ => ⟨rfl, ht⟩) hS.2.2 ds_lch_14 hlk
theorem px_shr0 : ∀ i, i < 2 → Int32.ofNat (px_len.getD i 0) >>> ((0 : Int32) &&& 31) = Int32.ofNat (px_len.getD i 0) := by decide +kernel
set_option maxRecDepth 100000 in
theorem ks_len (l : Launch) (i aK aV : Nat) (hi : i < 2) : Met l ys_len (pxws ys_len cs_len 1 (some .int)) (px_Ro 2) (px_TP i aK aV [.ref aK]) (px_TQ (some (.int (Int32.ofNat (px_len.getD i 0))))) 0 0 (fun _ => False) := by
  refine px_TW (by decide +kernel) (Nat.le_of_ble_eq_true rfl) ?_
  intro p e s m below meth c ls hx hb hr hml hts hown hlk hT hl
  obtain ⟨hO, hc, hv, hV, hZ, hZq⟩ := id hT
  have hS : va_S px_T0 s.heap s.heap [] := va_S.rf
  have hl : lv_has ls 1 ([(0, .ref aK)]) := hl
  refine lv_aload_n hx hb ds_len_0 rfl (lv_at hl 0 rfl) ?_
  refine vk_getf hx hb hv hS hown (hts _ wf_9) (fun _ h => h) ds_len_1 ?_
  refine va_tln hx hb hV hS ds_len_4 ?_
  refine lv_aload_n hx hb ds_len_5 rfl (lv_at hl 0 rfl) ?_
  refine px_callT (fun _ h => h) (va_runV (As := []) (n := 0) (rest := [.int (Int32.ofNat (px_len.getD i 0))]) (C := "java/lang/String") (Ts := pxW) ⟨hx, hb, hml, hown, hts⟩ (ks_cod l i aK aV) ⟨callB_of 0 hts (px_good ws_cod) rfl rfl rfl (hts _ wn_St) (hts _ wm_335) ⟨by decide +kernel, by decide +kernel, by decide +kernel⟩ ⟨by decide, by decide⟩, hts _ wv_cod.1, hts _ wv_cod.2⟩ ⟨px_TP_b _ _ _ _, px_Trecv hO, fun U hU hW => ⟨rfl, hT.move hW hU⟩⟩ rfl rfl hl.1 rfl (lv_room (Nat.le_of_ble_eq_true rfl)) ds_len_6 ⟨Nat.le_refl 0, Nat.le_refl 0⟩) ?_
  refine lv_ishr hx hb ds_len_9 ?_
  have e1 : Int32.ofNat (px_len.getD i 0) >>> ((0 : Int32) &&& 31) = Int32.ofNat (px_len.getD i 0) := px_shr0 i hi
  rw [e1]
  exact W.iret (v := Int32.ofNat (px_len.getD i 0)) hx hb hr (fun t ht _ => ⟨rfl, ht⟩) hS.2.2 ds_len_10 hlk
set_option maxRecDepth 100000 in
theorem ks_cha (l : Launch) (i aK aV : Nat) (hi : i < 2) {x : Int32} (hin : vp_in x (px_len.getD i 0)) : Met l ys_cha (pxws ys_cha cs_cha 2 (some .char)) (px_Ro 4) (px_TP i aK aV [.ref aK, .int x]) (px_TQ (some (.int (px_chr i x.toNatClampNeg)))) 0 0 (fun _ => False) := by
  refine px_TW (by decide +kernel) (Nat.le_of_ble_eq_true rfl) ?_
  intro p e s m below meth c ls hx hb hr hml hts hown hlk hT hl
  obtain ⟨hO, hc, hv, hV, hZ, hZq⟩ := id hT
  have hS : va_S px_T0 s.heap s.heap [] := va_S.rf
  have hl : lv_has ls 2 ([(0, .ref aK), (1, .int x)]) := hl
  refine lv_aload_n hx hb ds_cha_0 rfl (lv_at hl 0 rfl) ?_
  refine px_callT (fun _ h => h) (va_runV (As := []) (n := 0) (rest := []) (C := "java/lang/String") (Ts := pxW) ⟨hx, hb, hml, hown, hts⟩ (ks_lat l i aK aV) ⟨callB_of 0 hts (px_good ws_lat) rfl rfl rfl (hts _ wn_St) (hts _ wm_492) ⟨by decide +kernel, by decide +kernel, by decide +kernel⟩ ⟨by decide, by decide⟩, hts _ wv_lat.1, hts _ wv_lat.2⟩ ⟨px_TP_b _ _ _ _, px_Trecv hO, fun U hU hW => ⟨rfl, hT.move hW hU⟩⟩ rfl rfl hl.1 rfl (lv_room (Nat.le_of_ble_eq_true rfl)) ds_cha_1 ⟨Nat.le_refl 0, Nat.le_refl 0⟩) ?_
  refine lv_if_eq (tgt := 16) hx hb ds_cha_4 (by decide) (fun h => absurd h (by decide)) (fun _ => ?_)
  refine lv_aload_n hx hb ds_cha_7 rfl (lv_at hl 0 rfl) ?_
  refine vk_getf hx hb hv hS hown (hts _ wf_9) (fun _ h => h) ds_cha_8 ?_
  refine lv_iload_n hx hb ds_cha_11 rfl (lv_at hl 1 rfl) ?_
  refine px_callT (fun _ h => h) (va_runS (As := [.ref aV, .int x]) (n := 2) (rest := []) (Ts := pxW) ⟨hx, hb, hml, hown, hts⟩ (ks_lch l i aK aV hi hin) ⟨callB_of 2 hts (px_good ws_lch) rfl rfl rfl (hts _ wn_S1) (hts _ wm_495) ⟨by decide +kernel, by decide +kernel, by decide +kernel⟩ ⟨by decide, by decide⟩, hts _ wt_lch⟩ ⟨px_TP_b _ _ _ _, fun U hU hW => ⟨rfl, hT.move hW hU⟩⟩ rfl rfl hl.1 rfl (lv_room (Nat.le_of_ble_eq_true rfl)) ds_cha_12 ⟨Nat.le_refl 0, Nat.le_refl 0⟩) ?_
  have hlt : x.toNatClampNeg < px_len.getD i 0 := Nat.not_le.mp fun q => hin (Or.inr q)
  exact W.zret (v := px_chr i x.toNatClampNeg) hx hb hr (px_chr_n hi hlt).2 (fun t ht _ => ⟨rfl, ht⟩) hS.2.2 ds_cha_15 hlk
