/-- a contract out of a walk: of a method for which the machine has no entry of its own -/
theorem pm_ofF {l : Launch} {y : MethodName} {cc : ByteArray} {nL : Nat} {ret : Option FieldType} {R : Room} {as : List pxV} {ids : List pxI} {G : pxG} {σ : pxS} {Rt : Option pxV → List pxI → pxG → pxS → Prop}
    (hy : plainFor y = true) (hn : as.length ≤ nL) (h : pw l R y cc nL ret 0 (px_args 0 as) [] ids G σ 0 0 Rt) : pm l y cc nL ret R as ids G σ Rt := by
  intro D tA ad sz
  refine va_MetF (cc := cc) (maxL := nL) (ret := ret) hy rfl ?_
  intro p e s m args below meth c s₁ B hml hv
  obtain ⟨rfl, hsz, hP, hK, hD0, hcl, hvv, hE⟩ := hv
  subst hsz
  have hts := atoms_spec (ws := pxws y cc nL ret) B.pre
  rw [lg_entry_eq]
  exact h p e s m _ below meth c s.heap [] _ D tA ad ad ids _
    ⟨⟨B.exec, B.bytes, B.returns, hml, (name_of_methodNamed B.named B.method).1, fun w hw => hts w (List.mem_cons_of_mem _ hw), findClass_of_methodNamed B.named, B.notSynchronized, hE, hK⟩,
      ⟨hP, hD0.self, va_S.rf, hcl, fun q hq => Or.inr hq⟩, by rw [px_args_ml]; exact lv_entry _ (by rw [px_sl_len]; exact hn), fun q hq => hvv _ (px_args_mem as 0 q hq), fun v hv => absurd hv List.not_mem_nil, fun i hi => hi, fun i _ => rfl⟩
