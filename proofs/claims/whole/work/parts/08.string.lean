/-! THE STRING CONSTANT: its length and its signs, by the JDK's own methods -/
def pStr (G : pG) : Int := pRef G.1 (G.2.2.2.2 2)
def pStv (G : pG) : Int := pRef G.1 (G.2.2.2.2 3)
def pCh (i : Int) : Int := bAnd ((pBy.getD i.toNat 0).toInt) 255
theorem pBy_len : pBy.length = 144 := by decide +kernel
theorem pBy_ok : ∀ i : Nat, i < 144 → pBy.getD i 0 &&& 255 = pBy.getD i 0 ∧ ((pBy.getD i 0).toUInt32 % 65536).toInt32 = pBy.getD i 0 ∧ narrow .char (.int (pBy.getD i 0)) = .int (pBy.getD i 0) := by decide +kernel
theorem pStrT {G : pG} {A : Nat → Prop} {s : State} {H : Heap} (z5 : vk_S 1 [pBy.length] [pBy] (fun _ => G.2.2.2.2 2) (fun _ => G.2.2.2.2 3) A s H) : va_T .byte (G.2.2.2.2 3) 144 (fun j => .int (pBy.getD j 0)) A s H := by
  have hl := pBy_len
  generalize pBy = B at *
  have h := (z5.1 0 (by omega)).2.2.2
  rw [← hl]
  exact h
section PS
variable {l : Launch} {G : pG} {d d' : Nat} {M N : pMeth} {bg : Nat × Nat} {pc q : Nat} {lv : List (Nat × pV)} {as st full : List pV} {μ : pM} {Q : Option pV → pM → Prop} {n : Nat} {K : Int → Nat × Nat} {F E : Int → Int → Int}
theorem s_ldcS {index : Nat} (k : Nat) (hf : M.2.2.2.2[k]? = some (pc, .ldc index, 2)) (hi : (M.1.cls, index) = ("JoinRouter$Tokens", 58)) (h : PW l G d M bg q lv ((2, pStr G) :: st) μ Q) (hq : pc + 2 = q := by rfl) : PW l G d M bg pc lv st μ Q := by
  subst hq
  obtain ⟨hi1, hi2⟩ := Prod.mk.inj hi
  subst hi2
  intro ok p e R s m args below meth c C Qc mc ms free H locs cells slots ls lvJ stJ ⟨h1, h2, h3, h4, h5, h6, h7, h8, h9, h10, h11, h12⟩
  obtain ⟨cx, cb, cm, co, ct, -, -, -, cK, ⟨z1, z2, z3, z4, z5, z6⟩, -⟩ := id C
  rw [hi1] at co
  refine va_ldcS cx cb co z6 (pDec ok hf) ?_
  exact h ok p e R s m args below meth c C Qc mc ms free H locs cells slots ls lvJ _ ⟨h1, h2, h3, h4, h5, h6, h7, h8, h9, by simp only [List.map_cons, pAbs, h10]; rfl, h11, h12⟩
theorem s_getCS {index : Nat} (k : Nat) (hf : M.2.2.2.2[k]? = some (pc, .getstatic index, 3)) (hw : Cond.fieldLink M.1.cls index "java/lang/String" "COMPACT_STRINGS" "Z" ∈ lw_u) (h : PW l G d M bg q lv ((0, 1) :: st) μ Q) (hq : pc + 3 = q := by rfl) : PW l G d M bg pc lv st μ Q := by
  subst hq
  intro ok p e R s m args below meth c C Qc mc ms free H locs cells slots ls lvJ stJ ⟨h1, h2, h3, h4, h5, h6, h7, h8, h9, h10, h11, h12⟩
  obtain ⟨cx, cb, cm, co, ct, -, -, -, cK, ⟨z1, z2, z3, z4, z5, z6⟩, -⟩ := id C
  refine va_gets cx cb z3 h7 co (ct _ hw) (fun _ h => h) (pDec ok hf) ?_
  exact h ok p e R s m args below meth c C Qc mc ms free H locs cells slots ls lvJ _ ⟨h1, h2, h3, h4, h5, h6, h7, h8, h9, by simp only [List.map_cons, pAbs, h10]; rfl, h11, h12⟩
theorem s_getSI {index : Nat} (k : Nat) (hf : M.2.2.2.2[k]? = some (pc, .getstatic index, 3)) (hw : Cond.fieldLink M.1.cls index "jdk/internal/util/Preconditions" "SIOOBE_FORMATTER" "Ljava/util/function/BiFunction;" ∈ lw_u) (h : ∀ z : Int, PW l G d M bg q lv ((2, z) :: st) μ Q) (hq : pc + 3 = q := by rfl) : PW l G d M bg pc lv st μ Q := by
  subst hq
  intro ok p e R s m args below meth c C Qc mc ms free H locs cells slots ls lvJ stJ ⟨h1, h2, h3, h4, h5, h6, h7, h8, h9, h10, h11, h12⟩
  obtain ⟨cx, cb, cm, co, ct, -, -, -, cK, ⟨z1, z2, z3, z4, z5, z6⟩, -⟩ := id C
  rcases z4 with z4 | ⟨t, z4⟩
  · refine va_gets cx cb z4 h7 co (ct _ hw) (fun _ h => h) (pDec ok hf) ?_
    exact h (-1) ok p e R s m args below meth c C Qc mc ms free H locs cells slots ls lvJ _ ⟨h1, h2, h3, h4, h5, h6, h7, h8, h9, by simp only [List.map_cons, pAbs, h10], h11, h12⟩
  · refine va_gets cx cb z4 h7 co (ct _ hw) (fun _ h => h) (pDec ok hf) ?_
    exact h (pRef G.1 t) ok p e R s m args below meth c C Qc mc ms free H locs cells slots ls lvJ _ ⟨h1, h2, h3, h4, h5, h6, h7, h8, h9, by simp only [List.map_cons, pAbs, h10], h11, h12⟩
theorem pRef_inj {b x y : Nat} (h : pRef b x = pRef b y) : x = y := by
  unfold pRef at h
  split at h <;> split at h <;> omega
theorem s_getSv {index : Nat} (k : Nat) (hf : M.2.2.2.2[k]? = some (pc, .getfield index, 3)) (hw : Cond.fieldLink M.1.cls index "java/lang/String" "value" "[B" ∈ lw_u) (h : PW l G d M bg q lv ((2, pStv G) :: st) μ Q) (hq : pc + 3 = q := by rfl) : PW l G d M bg pc lv ((2, pStr G) :: st) μ Q := by
  subst hq
  intro ok p e R s m args below meth c C Qc mc ms free H locs cells slots ls lvJ stJ ⟨h1, h2, h3, h4, h5, h6, h7, h8, h9, h10, h11, h12⟩
  obtain ⟨v0, r0, rfl, a0, hs⟩ := pst_cons h10
  obtain ⟨a, rfl, ha⟩ := pAbs_refn a0 (pRef_ne _ _)
  have := pRef_inj ha
  subst this
  obtain ⟨cx, cb, cm, co, ct, -, -, -, cK, ⟨z1, z2, z3, z4, z5, z6⟩, -⟩ := id C
  refine vk_getf cx cb (z5.1 0 (by omega)).2.2.1 h7 co (ct _ hw) (fun _ h => h) (pDec ok hf) ?_
  exact h ok p e R s m args below meth c C Qc mc ms free H locs cells slots ls lvJ _ ⟨h1, h2, h3, h4, h5, h6, h7, h8, h9, by simp only [List.map_cons, pAbs, hs]; rfl, h11, h12⟩
theorem s_getSc {index : Nat} (k : Nat) (hf : M.2.2.2.2[k]? = some (pc, .getfield index, 3)) (hw : Cond.fieldLink M.1.cls index "java/lang/String" "coder" "B" ∈ lw_u) (h : PW l G d M bg q lv ((0, 0) :: st) μ Q) (hq : pc + 3 = q := by rfl) : PW l G d M bg pc lv ((2, pStr G) :: st) μ Q := by
  subst hq
  intro ok p e R s m args below meth c C Qc mc ms free H locs cells slots ls lvJ stJ ⟨h1, h2, h3, h4, h5, h6, h7, h8, h9, h10, h11, h12⟩
  obtain ⟨v0, r0, rfl, a0, hs⟩ := pst_cons h10
  obtain ⟨a, rfl, ha⟩ := pAbs_refn a0 (pRef_ne _ _)
  have := pRef_inj ha
  subst this
  obtain ⟨cx, cb, cm, co, ct, -, -, -, cK, ⟨z1, z2, z3, z4, z5, z6⟩, -⟩ := id C
  refine vk_getf cx cb (z5.1 0 (by omega)).2.1 h7 co (ct _ hw) (fun _ h => h) (pDec ok hf) ?_
  exact h ok p e R s m args below meth c C Qc mc ms free H locs cells slots ls lvJ _ ⟨h1, h2, h3, h4, h5, h6, h7, h8, h9, by simp only [List.map_cons, pAbs, hs]; rfl, h11, h12⟩
theorem s_alenS (k : Nat) (hf : M.2.2.2.2[k]? = some (pc, .arraylength, 1)) (h : PW l G d M bg q lv ((0, 144) :: st) μ Q) (hq : pc + 1 = q := by rfl) : PW l G d M bg pc lv ((2, pStv G) :: st) μ Q := by
  subst hq
  intro ok p e R s m args below meth c C Qc mc ms free H locs cells slots ls lvJ stJ ⟨h1, h2, h3, h4, h5, h6, h7, h8, h9, h10, h11, h12⟩
  obtain ⟨v0, r0, rfl, a0, hs⟩ := pst_cons h10
  obtain ⟨a, rfl, ha⟩ := pAbs_refn a0 (pRef_ne _ _)
  have := pRef_inj ha
  subst this
  obtain ⟨cx, cb, cm, co, ct, -, -, -, cK, ⟨z1, z2, z3, z4, z5, z6⟩, -⟩ := id C
  refine va_tlen cx cb (pStrT z5) h7 (v := 144) rfl (pDec ok hf) ?_
  exact h ok p e R s m args below meth c C Qc mc ms free H locs cells slots ls lvJ _ ⟨h1, h2, h3, h4, h5, h6, h7, h8, h9, by simp only [List.map_cons, pAbs, hs]; rfl, h11, h12⟩
theorem s_baldS {i : Int} (k : Nat) (hf : M.2.2.2.2[k]? = some (pc, .baload, 1)) (hi : 0 ≤ i ∧ i < 144) (h : PW l G d M bg q lv ((0, (pBy.getD i.toNat 0).toInt) :: st) μ Q) (hq : pc + 1 = q := by rfl) : PW l G d M bg pc lv ((0, i) :: (2, pStv G) :: st) μ Q := by
  subst hq
  intro ok p e R s m args below meth c C Qc mc ms free H locs cells slots ls lvJ stJ ⟨h1, h2, h3, h4, h5, h6, h7, h8, h9, h10, h11, h12⟩
  obtain ⟨v1, r1, rfl, a1, hs1⟩ := pst_cons h10
  obtain ⟨v0, r0, rfl, a0, hs⟩ := pst_cons hs1
  obtain ⟨ji, rfl, ei⟩ := pAbs_int a1
  obtain ⟨a, rfl, ha⟩ := pAbs_refn a0 (pRef_ne _ _)
  have := pRef_inj ha
  subst this
  obtain ⟨cx, cb, cm, co, ct, -, -, -, cK, ⟨z1, z2, z3, z4, z5, z6⟩, -⟩ := id C
  refine va_tb cx cb (pStrT z5) h7 (pIx ei hi.1 hi.2) (v := .int (pBy.getD ji.toNatClampNeg 0)) rfl (pDec ok hf) ?_
  exact h ok p e R s m args below meth c C Qc mc ms free H locs cells slots ls lvJ _ ⟨h1, h2, h3, h4, h5, h6, h7, h8, h9, by simp only [List.map_cons, pAbs, hs, i32_clamp, ei], h11, h12⟩
theorem s_i2c {x : Int32} (k : Nat) (hf : M.2.2.2.2[k]? = some (pc, .i2c, 1)) (hx : (x.toUInt32 % 65536).toInt32 = x) (h : PW l G d M bg q lv ((0, x.toInt) :: st) μ Q) (hq : pc + 1 = q := by rfl) : PW l G d M bg pc lv ((0, x.toInt) :: st) μ Q := by
  subst hq
  intro ok p e R s m args below meth c C Qc mc ms free H locs cells slots ls lvJ stJ ⟨h1, h2, h3, h4, h5, h6, h7, h8, h9, h10, h11, h12⟩
  obtain ⟨v0, r0, rfl, a0, hs⟩ := pst_cons h10
  obtain ⟨jx, rfl, ex⟩ := pAbs_int a0
  have := Int32.toInt_inj.mp ex
  subst this
  refine lv_i2c C.1 C.2.1 (pDec ok hf) hx ?_
  exact h ok p e R s m args below meth c C Qc mc ms free H locs cells slots ls lvJ _ ⟨h1, h2, h3, h4, h5, h6, h7, h8, h9, by simp only [List.map_cons, pAbs, hs], h11, h12⟩
theorem s_nret {x : Int32} {ty : FieldType} (k : Nat) (hf : M.2.2.2.2[k]? = some (pc, .ireturn, 1)) (hr : M.2.2.2.1 = some ty) (hx : narrow ty (.int x) = .int x) (h : Q (some (0, x.toInt)) (n, K, F, E)) : PW l G d M bg pc lv [(0, x.toInt)] (n, K, F, E) Q := by
  intro ok p e R s m args below meth c C Qc mc ms free H locs cells slots ls lvJ stJ ⟨h1, h2, h3, h4, h5, h6, h7, h8, h9, h10, h11, h12⟩
  obtain ⟨v0, r0, rfl, a0, hs⟩ := pst_cons h10
  obtain ⟨jx, rfl, ex⟩ := pAbs_int a0
  have := Int32.toInt_inj.mp ex
  subst this
  have hr0 : r0 = [] := List.map_eq_nil_iff.mp hs
  subst hr0
  obtain ⟨cx, cb, cm, co, ct, cr, cl, -⟩ := id C
  refine W.widen (k := mc) (n := ms) (by omega) (by omega) ?_
  exact W.zret cx cb (cr.trans hr) hx (fun t ht hW => h12 (some (.int jx)) _ t (by rw [Option.map_some, a0]; exact h) (by rw [ht]; exact h5) h6 hW (h7.F ht)) (fun q hq => h11 _ (h7.2.2 q hq)) (pDec ok hf) cl
/-- a call on the constant -/
theorem s_callX {index : Nat} (k : Nat) (hf : M.2.2.2.2[k]? = some (pc, .invokevirtual index, 3)) (okN : pOk N) (hcl : N.1.cls = "java/lang/String") (hi : Cond.instanceMethod N.1 ∈ lw_u) (hsel : Cond.selects N.1.cls N.1 N.1 ∈ lw_u) (hp : (parseMethodDescriptor N.1.desc).map (fun d => d.parameters.length) = some as.length) (hw : Cond.methodLink M.1.cls index N.1 ∈ lw_u) (hfull : ((2, pStr G) :: as).reverse ++ st = full) (h : PC l G d' N (0, 0) ((2, pStr G) :: as) μ (fun r μ' => PW l G d M bg q lv (r.toList ++ st) μ' Q)) (hq : pc + 3 = q := by rfl) (hd : d' + 1 ≤ d := by decide) (hall : ((2, pStr G) :: as).all (fun q => q.1 < 3) = true := by rfl) (hsz : pCat ((2, pStr G) :: as) ≤ N.2.2.1 := by exact Nat.le_of_ble_eq_true rfl) (hcat : pCat st ≤ 8 := by exact Nat.le_of_ble_eq_true rfl) (hall2 : st.all (fun q => q.1 < 3) = true := by rfl) : PW l G d M bg pc lv full μ Q := by
  subst hq
  intro ok p e R s m args below meth c C Qc mc ms free H locs cells slots ls lvJ stJ I
  obtain ⟨h1, h2, h3, h4, h5, h6, h7, h8, h9, h10, h11, h12⟩ := id I
  obtain ⟨As, rest, rfl, hA, hrest⟩ := pSplit h10 hfull
  obtain ⟨v0, r0, rfl, a0, hs⟩ := pst_cons hA
  obtain ⟨cx, cb, cm, co, ct, -, -, -, cK, ⟨z1, z2, z3, z4, z5, z6⟩, -, cf, cl⟩ := id C
  obtain ⟨a, rfl, ha⟩ := pAbs_refn a0 (pRef_ne _ _)
  have := pRef_inj ha
  subst this
  obtain ⟨cell, g1, g2, g3⟩ := vk_recv z5 (i := 0) (by omega) h7
  have hM := pMet okN h hA hall hsz
  have h40 : N.2.2.1 ≤ 40 := okN.2.2.2.2.1
  have hlen : r0.length = as.length := by rw [← hs, List.length_map]
  have hP := pPreOf C I (.ref (G.2.2.2.2 2) :: r0)
  refine pAfter (b' := (0, 0)) ok C I hrest ⟨Nat.zero_le _, Nat.zero_le _⟩ (va_runV (C := N.1.cls) (As := r0) (rest := rest) ⟨cx, cb, cm, co, ct⟩ hM ⟨callB_of as.length ct (pWs_good okN) rfl rfl rfl (ct _ okN.2.2.1) (ct _ hw) ⟨okN.2.2.2.1.1, okN.2.2.2.1.2, hp⟩ ⟨by show d' + 1 + 1 ≤ _; omega, by show 8 + (N.2.2.1 + 11) + 64 * (d' + 1) ≤ _; omega⟩, ct _ hi, ct _ hsel⟩ ⟨hP.1, ⟨cell, g1, g2, by rw [hcl]; exact g3⟩, hP.2⟩ rfl hlen h8.1 (by simp) ?_ (pDec ok hf) ⟨by omega, by omega⟩)
  show 2 * 0 + _ ≤ 8
  rw [pCat_eq hrest hall2]
  omega
end PS
theorem JI_coder : Cond.instanceMethod mJ0_coder_7d493.1 ∈ lw_u := tb3 (List.mem_of_getElem? (i := 189) (by decide +kernel))
theorem JS_coder : Cond.selects mJ0_coder_7d493.1.cls mJ0_coder_7d493.1 mJ0_coder_7d493.1 ∈ lw_u := tb3 (List.mem_of_getElem? (i := 190) (by decide +kernel))
theorem JI_length : Cond.instanceMethod mJ0_length_8abf5.1 ∈ lw_u := tb3 (List.mem_of_getElem? (i := 185) (by decide +kernel))
theorem JS_length : Cond.selects mJ0_length_8abf5.1.cls mJ0_length_8abf5.1 mJ0_length_8abf5.1 ∈ lw_u := tb3 (List.mem_of_getElem? (i := 186) (by decide +kernel))
theorem JI_isLatin1 : Cond.instanceMethod mJ0_isLatin1_aae02.1 ∈ lw_u := tb3 (List.mem_of_getElem? (i := 199) (by decide +kernel))
theorem JS_isLatin1 : Cond.selects mJ0_isLatin1_aae02.1.cls mJ0_isLatin1_aae02.1 mJ0_isLatin1_aae02.1 ∈ lw_u := tb3 (List.mem_of_getElem? (i := 200) (by decide +kernel))
theorem JI_charAt : Cond.instanceMethod mJ0_charAt_5068e.1 ∈ lw_u := tb3 (List.mem_of_getElem? (i := 195) (by decide +kernel))
theorem JS_charAt : Cond.selects mJ0_charAt_5068e.1.cls mJ0_charAt_5068e.1 mJ0_charAt_5068e.1 ∈ lw_u := tb3 (List.mem_of_getElem? (i := 196) (by decide +kernel))
section PJ
variable {l : Launch} {G : pG} {n : Nat} {K : Int → Nat × Nat} {F E : Int → Int → Int} {Q : Option pV → pM → Prop}
theorem j_coder (h : Q (some (0, 0)) (n, K, F, E)) : PC l G 0 mJ0_coder_7d493 (0, 0) [(2, pStr G)] (n, K, F, E) Q := by
  show PW l G 0 mJ0_coder_7d493 (0, 0) 0 [(0, (2, pStr G))] [] (n, K, F, E) Q
  refine s_getCS (q := 3) 0 rfl kJ0_38 ?_
  refine s_if_eq (q := 6) (tgt := 13) 1 rfl rfl (fun hb => absurd hb (by decide)) (fun _ => ?_)
  refine s_aload_n (q := 7) 2 0 rfl rfl ?_
  refine s_getSc (q := 10) 3 rfl kJ0_15 ?_
  refine s_goto (tgt := 14) 4 rfl rfl ?_
  exact s_nret (x := 0) 6 rfl rfl rfl h
theorem j_length (h : Q (some (0, 144)) (n, K, F, E)) : PC l G 1 mJ0_length_8abf5 (0, 0) [(2, pStr G)] (n, K, F, E) Q := by
  show PW l G 1 mJ0_length_8abf5 (0, 0) 0 [(0, (2, pStr G))] [] (n, K, F, E) Q
  refine s_aload_n (q := 1) 0 0 rfl rfl ?_
  refine s_getSv (q := 4) 1 rfl kJ0_9 ?_
  refine s_alenS (q := 5) 2 rfl ?_
  refine s_aload_n (q := 6) 3 0 rfl rfl ?_
  refine s_callX (N := mJ0_coder_7d493) (as := []) (st := [(0, 144)]) (q := 9) (d' := 0) 4 rfl oJ0_coder_7d493 rfl JI_coder JS_coder (by decide +kernel) kJ0_335 rfl (j_coder ?_)
  show PW l G 1 mJ0_length_8abf5 (0, 0) 9 [(0, (2, pStr G))] [(0, 0), (0, 144)] (n, K, F, E) Q
  refine s_ishr (q := 10) 5 rfl ?_
  refine PW.top (b := 144) (by decide) ?_
  exact s_iret 6 rfl rfl h
theorem j_isLatin1 (h : Q (some (0, 1)) (n, K, F, E)) : PC l G 0 mJ0_isLatin1_aae02 (0, 0) [(2, pStr G)] (n, K, F, E) Q := by
  show PW l G 0 mJ0_isLatin1_aae02 (0, 0) 0 [(0, (2, pStr G))] [] (n, K, F, E) Q
  refine s_getCS (q := 3) 0 rfl kJ0_38 ?_
  refine s_if_eq (q := 6) (tgt := 17) 1 rfl rfl (fun hb => absurd hb (by decide)) (fun _ => ?_)
  refine s_aload_n (q := 7) 2 0 rfl rfl ?_
  refine s_getSc (q := 10) 3 rfl kJ0_15 ?_
  refine s_if_ne (q := 13) (tgt := 17) 4 rfl rfl (fun hb => absurd rfl hb) (fun _ => ?_)
  refine s_iconst (q := 14) 5 rfl ?_
  refine s_goto (tgt := 18) 6 rfl rfl ?_
  exact s_zret 8 rfl rfl (by decide) h
theorem j_check3 {x0 x1 x2 : Int} (hx : 0 ≤ x0 ∧ x0 < x1) (h : Q (some (0, x0)) (n, K, F, E)) : PC l G 0 mJ3_checkIndex_8e157 (0, 0) [(0, x0), (0, x1), (2, x2)] (n, K, F, E) Q := by
  show PW l G 0 mJ3_checkIndex_8e157 (0, 0) 0 [(0, (0, x0)), (1, (0, x1)), (2, (2, x2))] [] (n, K, F, E) Q
  refine s_iload_n (q := 1) 0 0 rfl rfl ?_
  refine s_if_lt (q := 4) (tgt := 9) 1 rfl rfl (fun hb => by omega) (fun _ => ?_)
  refine s_iload_n (q := 5) 2 0 rfl rfl ?_
  refine s_iload_n (q := 6) 3 1 rfl rfl ?_
  refine s_icmp_lt (q := 9) (tgt := 16) 4 rfl rfl (fun _ => ?_) (fun hb => by omega)
  refine s_iload_n (q := 17) 10 0 rfl rfl ?_
  exact s_iret 11 rfl rfl h
theorem j_check {x0 x1 : Int} (hx : 0 ≤ x0 ∧ x0 < x1) (h : Q none (n, K, F, E)) : PC l G 1 mJ0_checkIndex_df160 (0, 0) [(0, x0), (0, x1)] (n, K, F, E) Q := by
  show PW l G 1 mJ0_checkIndex_df160 (0, 0) 0 [(0, (0, x0)), (1, (0, x1))] [] (n, K, F, E) Q
  refine s_iload_n (q := 1) 0 0 rfl rfl ?_
  refine s_iload_n (q := 2) 1 1 rfl rfl ?_
  refine s_getSI (q := 5) 2 rfl kJ0_1053 (fun z => ?_)
  refine n_callS (N := mJ3_checkIndex_8e157) (as := [(0, x0), (0, x1), (2, z)]) (st := []) (q := 8) (d' := 0) 3 rfl uJ3_checkIndex_8e157 kJ0_1059 rfl (j_check3 hx ?_)
  show PW l G 1 mJ0_checkIndex_df160 (0, 0) 8 [(0, (0, x0)), (1, (0, x1))] [(0, x0)] (n, K, F, E) Q
  refine s_pop (q := 9) 4 rfl ?_
  exact s_vret 5 rfl rfl h
theorem j_charAt1 {x1 : Int} (hx : 0 ≤ x1 ∧ x1 < 144) (h : Q (some (0, pCh x1)) (n, K, F, E)) : PC l G 2 mJ1_charAt_3b067 (0, 0) [(2, pStv G), (0, x1)] (n, K, F, E) Q := by
  show PW l G 2 mJ1_charAt_3b067 (0, 0) 0 [(0, (2, pStv G)), (1, (0, x1))] [] (n, K, F, E) Q
  refine s_iload_n (q := 1) 0 1 rfl rfl ?_
  refine s_aload_n (q := 2) 1 0 rfl rfl ?_
  refine s_alenS (q := 3) 2 rfl ?_
  refine n_callS (N := mJ0_checkIndex_df160) (as := [(0, x1), (0, 144)]) (st := []) (q := 6) (d' := 1) 3 rfl uJ0_checkIndex_df160 kJ1_9 rfl (j_check hx ?_)
  show PW l G 2 mJ1_charAt_3b067 (0, 0) 6 [(0, (2, pStv G)), (1, (0, x1))] [] (n, K, F, E) Q
  refine s_aload_n (q := 7) 4 0 rfl rfl ?_
  refine s_iload_n (q := 8) 5 1 rfl rfl ?_
  refine s_baldS (q := 9) 6 rfl hx ?_
  refine s_sipush (q := 12) 7 rfl ?_
  refine s_iand (q := 13) 8 rfl ?_
  have hk := pBy_ok x1.toNat (by omega)
  have e : bAnd ((pBy.getD x1.toNat 0).toInt) 255 = (pBy.getD x1.toNat 0).toInt := by
    show (Int32.ofInt ((pBy.getD x1.toNat 0).toInt) &&& Int32.ofInt 255).toInt = _
    rw [Int32.ofInt_toInt]
    exact congrArg Int32.toInt hk.1
  rw [show pCh x1 = (pBy.getD x1.toNat 0).toInt from e] at h
  refine PW.top (b := (pBy.getD x1.toNat 0).toInt) e ?_
  refine s_i2c (q := 14) 9 rfl hk.2.1 ?_
  exact s_nret 10 rfl rfl hk.2.2 h
theorem j_charAt {x1 : Int} (hx : 0 ≤ x1 ∧ x1 < 144) (h : Q (some (0, pCh x1)) (n, K, F, E)) : PC l G 3 mJ0_charAt_5068e (0, 0) [(2, pStr G), (0, x1)] (n, K, F, E) Q := by
  show PW l G 3 mJ0_charAt_5068e (0, 0) 0 [(0, (2, pStr G)), (1, (0, x1))] [] (n, K, F, E) Q
  refine s_aload_n (q := 1) 0 0 rfl rfl ?_
  refine s_callX (N := mJ0_isLatin1_aae02) (as := []) (st := []) (q := 4) (d' := 0) 1 rfl oJ0_isLatin1_aae02 rfl JI_isLatin1 JS_isLatin1 (by decide +kernel) kJ0_492 rfl (j_isLatin1 ?_)
  show PW l G 3 mJ0_charAt_5068e (0, 0) 4 [(0, (2, pStr G)), (1, (0, x1))] [(0, 1)] (n, K, F, E) Q
  refine s_if_eq (q := 7) (tgt := 16) 2 rfl rfl (fun hb => absurd hb (by decide)) (fun _ => ?_)
  refine s_aload_n (q := 8) 3 0 rfl rfl ?_
  refine s_getSv (q := 11) 4 rfl kJ0_9 ?_
  refine s_iload_n (q := 12) 5 1 rfl rfl ?_
  refine n_callS (N := mJ1_charAt_3b067) (as := [(2, pStv G), (0, x1)]) (st := []) (q := 15) (d' := 2) 6 rfl uJ1_charAt_3b067 kJ0_495 rfl (j_charAt1 hx ?_)
  show PW l G 3 mJ0_charAt_5068e (0, 0) 15 [(0, (2, pStr G)), (1, (0, x1))] [(0, pCh x1)] (n, K, F, E) Q
  have hk := pBy_ok x1.toNat (by omega)
  have e : pCh x1 = (pBy.getD x1.toNat 0).toInt := by
    show (Int32.ofInt ((pBy.getD x1.toNat 0).toInt) &&& Int32.ofInt 255).toInt = _
    rw [Int32.ofInt_toInt]
    exact congrArg Int32.toInt hk.1
  rw [e] at h
  refine PW.top (b := (pBy.getD x1.toNat 0).toInt) e ?_
  exact s_nret 7 rfl rfl hk.2.2 h
variable {d : Nat} {M : pMeth} {bg : Nat × Nat} {pc q : Nat} {lv : List (Nat × pV)} {st : List pV}
theorem s_strlen {index : Nat} (k : Nat) (hf : M.2.2.2.2[k]? = some (pc, .invokevirtual index, 3)) (hw : Cond.methodLink M.1.cls index mJ0_length_8abf5.1 ∈ lw_u) (h : PW l G d M bg q lv ((0, 144) :: st) (n, K, F, E) Q) (hq : pc + 3 = q := by rfl) (hd : 2 ≤ d := by decide) (hcat : pCat st ≤ 8 := by exact Nat.le_of_ble_eq_true rfl) (hall2 : st.all (fun q => q.1 < 3) = true := by rfl) : PW l G d M bg pc lv ((2, pStr G) :: st) (n, K, F, E) Q :=
  s_callX (N := mJ0_length_8abf5) (as := []) (st := st) (q := q) (d' := 1) k hf oJ0_length_8abf5 rfl JI_length JS_length (by decide +kernel) hw rfl (j_length h) hq hd rfl (Nat.le_of_ble_eq_true rfl) hcat hall2
theorem s_charAt {index : Nat} {x : Int} (k : Nat) (hf : M.2.2.2.2[k]? = some (pc, .invokevirtual index, 3)) (hw : Cond.methodLink M.1.cls index mJ0_charAt_5068e.1 ∈ lw_u) (hx : 0 ≤ x ∧ x < 144) (h : PW l G d M bg q lv ((0, pCh x) :: st) (n, K, F, E) Q) (hq : pc + 3 = q := by rfl) (hd : 4 ≤ d := by decide) (hcat : pCat st ≤ 8 := by exact Nat.le_of_ble_eq_true rfl) (hall2 : st.all (fun q => q.1 < 3) = true := by rfl) : PW l G d M bg pc lv ((0, x) :: (2, pStr G) :: st) (n, K, F, E) Q :=
  s_callX (N := mJ0_charAt_5068e) (as := [(0, x)]) (st := st) (q := q) (d' := 3) k hf oJ0_charAt_5068e rfl JI_charAt JS_charAt (show _ = some 1 by decide +kernel) hw rfl (j_charAt hx h) hq hd rfl (Nat.le_of_ble_eq_true rfl) hcat hall2
end PJ
