/-! THE WALK'S RULES FOR CALLS -/
def lw_g : List Cond := lw_u.filter goodWord
def pWs (N : pMeth) : List Cond := Cond.code N.1 N.2.1 N.2.2.1 N.2.2.2.1 :: lw_g
theorem pWs_good {N : pMeth} (ok : pOk N) : GoodIn lw_u (pWs N) := by
  intro w hw
  rcases List.mem_cons.mp hw with h | h
  · subst h; exact ⟨ok.2.1, Or.inl rfl⟩
  · have := List.mem_filter.mp h
    exact ⟨this.1, good_of_word this.2⟩
/-- the words that aren't kept by themselves -/
def pBad (U : State) : Prop := ∀ w ∈ lw_u, goodWord w = false → w.before #[] U = true
theorem pBad.warm {s U : State} (hW : s.WarmedH U.vm) (h : pBad s) : pBad U := by
  intro w hw hg
  have hu := (List.mem_filter.mp hw).2
  have hs := h w hw hg
  unfold pUse at hu
  rw [hg, Bool.false_or] at hu
  unfold pNo at hu
  split at hu
  · exact va_Nw.warmM hW hs
  · exact va_AO.moved hW.alike hs
  · cases hu
theorem pBad.same {s U : State} (hv : s.vm = U.vm) (h : pBad s) : pBad U := by
  intro w hw hg
  have hu := (List.mem_filter.mp hw).2
  have hs := h w hw hg
  unfold pUse at hu
  rw [hg, Bool.false_or] at hu
  unfold pNo at hu
  split at hu
  · exact va_Nw.same rfl hv hs
  · exact va_AO.moved (by rw [hv]; exact Vm.Alike.refl _) hs
  · cases hu
theorem pBad.of {s : State} {args : Array Value} (h : ∀ w ∈ lw_u, w.before args s = true) : pBad s := by
  intro w hw hg
  have hu := (List.mem_filter.mp hw).2
  have hs := h w hw
  unfold pUse at hu
  rw [hg, Bool.false_or] at hu
  unfold pNo at hu
  split at hu
  · exact va_Nw.of rfl hs
  · exact va_AO.of hs
  · cases hu
theorem pBad.use {s : State} {args : Array Value} (h : pBad s) (h2 : ∀ w ∈ lw_g, w.before args s = true) : ∀ w ∈ lw_u, w.before args s = true := by
  intro w hw
  by_cases hg : goodWord w = true
  · exact h2 w (List.mem_filter.mpr ⟨hw, hg⟩)
  have hg : goodWord w = false := by simpa using hg
  have hu := (List.mem_filter.mp hw).2
  have hs := h w hw hg
  unfold pUse at hu
  rw [hg, Bool.false_or] at hu
  unfold pNo at hu
  split at hu
  · exact va_Nw.use rfl hs
  · exact va_AO.use hs
  · cases hu
theorem pKn.moved {G : pG} {u U : State} (hvm : u.vm.Alike U.vm) (h : pKn G u) : pKn G U := ⟨fun k hk => u_Kn_moved hvm (h.1 k hk), fun t ht => ⟨arrOfT_moved hvm (h.2 t ht).1, (h.2 t ht).2.moved hvm⟩⟩
theorem pExt.moved {G : pG} {u U : State} {μ : pM} {H H1 : Heap} (hvm : u.vm.Alike U.vm) (h : pExt G u μ H) (hq : ∀ a : Nat, a < G.1 → H1[a]? = H[a]?) : pExt G U μ H1 := by
  intro a ha
  rcases h a ha with q | ⟨m, q, cell, g1, g2, g3⟩
  · exact Or.inl q
  · exact Or.inr ⟨m, q, cell, by rw [hq a ha]; exact g1, State.isArrayOf_alike hvm g2, g3⟩
theorem pEnv.moved {G : pG} {u U : State} {H H1 : Heap} (hW : u.WarmedH U.vm) (h : pEnv G u H) (hq : ∀ a : Nat, a < H.size → ¬ G.1 ≤ a → H1[a]? = H[a]?) : pEnv G U H1 := by
  obtain ⟨z1, z2, z3, z4, z5, z6⟩ := h
  have hvm := hW.alike
  exact ⟨(z1.kept hq).moved hvm, (z2.kept hq).moved hvm, (z3.kept hq).moved hvm, (z4.kept hq).moved hvm, (z5.kept hq).moved hvm, z6.warm hW⟩
theorem pEnv.same {G : pG} {u U : State} {H : Heap} (hv : U.vm = u.vm) (h : pEnv G u H) : pEnv G U H := by
  obtain ⟨z1, z2, z3, z4, z5, z6⟩ := h
  have hvm : u.vm.Alike U.vm := by rw [hv]; exact Vm.Alike.refl _
  exact ⟨z1.moved hvm, z2.moved hvm, z3.moved hvm, z4.moved hvm, z5.moved hvm, z6.same hv⟩
theorem pSl_len {b : Nat} : ∀ {As : List Value} {as : List pV}, As.map (pAbs b) = as → as.all (fun q => q.1 < 3) = true → (lg_sl As).length = pCat as ∧ (lv_args 0 As).map (fun q => (q.1, pAbs b q.2)) = pArgs 0 as := by
  have key : ∀ (As : List Value) (as : List pV) (i : Nat), As.map (pAbs b) = as → as.all (fun q => q.1 < 3) = true → (lg_sl As).length = pCat as ∧ (lv_args i As).map (fun q => (q.1, pAbs b q.2)) = pArgs i as := by
    intro As
    induction As with
    | nil => intro as i h _; subst h; exact ⟨rfl, rfl⟩
    | cons v vs ih =>
      intro as i h hall
      subst h
      rw [List.map_cons, List.all_cons, Bool.and_eq_true] at hall
      simp only [decide_eq_true_eq] at hall
      have hc := pAbs_cat (b := b) (v := v) (t := (pAbs b v).1) (x := (pAbs b v).2) rfl hall.1
      obtain ⟨e1, e2⟩ := ih _ (if v.category = 2 then i + 2 else i + 1) rfl hall.2
      constructor
      · have : lg_sl (v :: vs) = (if v.category = 2 then [Slot.val v, .second] else [Slot.val v]) ++ lg_sl vs := rfl
        rw [this, List.length_append, e1]
        simp only [pCat, List.map_cons, List.sum_cons]
        by_cases h1 : (pAbs b v).1 = 1
        · rw [if_pos h1] at hc ⊢
          rw [if_pos hc]
          rfl
        · rw [if_neg h1] at hc ⊢
          rw [if_neg (by rw [hc]; decide)]
          rfl
      · show (i, pAbs b v) :: _ = _
        rw [e2]
        simp only [List.map_cons, pArgs]
        congr 2
        by_cases h1 : (pAbs b v).1 = 1
        · rw [if_pos h1] at hc ⊢
          rw [if_pos hc]
        · rw [if_neg h1] at hc ⊢
          rw [if_neg (by rw [hc]; decide)]
  intro As as h1 h2
  exact key As as 0 h1 h2
/-- what a callee leaves -/
def pPost (G : pG) (Q : Option pV → pM → Prop) : State → Outcome → State → Prop := fun st o t => ∃ (v : Option Value) (μ' : pM), o = .returned v ∧ Q (v.map (pAbs G.1)) μ' ∧ pRep G μ' t.heap ∧ pExt G st μ' st.heap ∧ st.WarmedH t.vm ∧ va_F (fun q => G.1 ≤ q) st t
def pPre (G : pG) (μ : pM) (U : State) : Prop := pRep G μ U.heap ∧ pExt G U μ U.heap ∧ pKn G U ∧ pEnv G U U.heap ∧ pBad U
abbrev pRm (d : Nat) (bg : Nat × Nat) : Room := { frames := d + 1, cells := bg.1, slots := bg.2, locals := 64 * (d + 1) }
theorem pMet {l : Launch} {G : pG} {N : pMeth} {d : Nat} {bg : Nat × Nat} {as : List pV} {μ : pM} {Q : Option pV → pM → Prop} {As : List Value} (okN : pOk N) (h : PC l G d N bg as μ Q) (hA : As.map (pAbs G.1) = as) (hall : as.all (fun q => q.1 < 3) = true) (hsz : pCat as ≤ N.2.2.1) :
    Met l N.1 (pWs N) (pRm d bg) (va_Pc As (pPre G μ)) (fun _ => pPost G Q) bg.1 bg.2 (fun a => G.1 ≤ a) := by
  refine Met.ofW (cc := N.2.1) (maxL := N.2.2.1) (ret := N.2.2.2.1) okN.1 rfl ?_
  intro p e s m args below meth c s₁ B hml hv
  obtain ⟨rfl, h5, h6, hK, hE, hBd⟩ := hv
  have hts := atoms_spec (ws := pWs N) B.pre
  obtain ⟨e1, e2⟩ := pSl_len hA hall
  have hl := lv_entry As (n := N.2.2.1) (by rw [e1]; exact hsz)
  rw [lg_entry_eq]
  have hsize : G.1 ≤ s.heap.size := by rw [h5.1]; exact Nat.le_add_right _ _
  exact h okN.2.2.2.2.2 p e _ s m _ below meth c ⟨B.exec, B.bytes, hml, findClass_of_methodNamed B.named, hBd.use (fun w hw => hts w (List.mem_cons_of_mem _ hw)), B.returns, B.notSynchronized, (name_of_methodNamed B.named B.method).1, hK, hE, hsize, Nat.le_refl _, Nat.le_refl _⟩ (fun _ => pPost G Q) bg.1 bg.2 (fun a => G.1 ≤ a) s.heap [] 0 0 _ _ []
    ⟨by omega, by omega, Nat.le_refl _, Nat.le_refl _, h5, h6, va_S.rf, hl, e2, rfl, fun _ h => h, fun v μ' t q1 q2 q3 q4 q5 => ⟨v, μ', rfl, q1, q2, q3, q4, q5⟩⟩
theorem pBlind {G : pG} {μ : pM} {As : List Value} : FrameBlind (va_Pc As (pPre G μ)) := by
  intro a U g mk q
  obtain ⟨q0, q1, q2, q3, q4, q5⟩ := q
  exact ⟨q0, q1, pExt.moved (u := U) (U := U.calling g mk a) (Vm.Alike.refl U.vm) q2 (fun _ _ => rfl), pKn.moved (u := U) (U := U.calling g mk a) (Vm.Alike.refl U.vm) q3, pEnv.same (u := U) (U := U.calling g mk a) rfl q4, pBad.same (s := U) (U := U.calling g mk a) rfl q5⟩
theorem pPreOf {G : pG} {d : Nat} {M : pMeth} {bg : Nat × Nat} {lv : List (Nat × pV)} {st : List pV} {μ : pM} {Q : Option pV → pM → Prop} {p : Program} {R : Room} {s : State} {m : MethodId} {args : Array Value} {meth : Method} {c : Code} {Qc : Array Value → State → Outcome → State → Prop} {mc ms : Nat} {free : Addr → Prop} {H : Heap} {locs : List Loc} {cells slots : Nat} {ls : Array Slot} {lvJ : List (Nat × Value)} {stJ : List Value}
    (C : pCx G d M p R s m args meth c) (I : pIn G M bg lv st μ Q R s args Qc mc ms free H locs cells slots ls lvJ stJ) (As : List Value) : PreS s H (va_Pc As (pPre G μ)) As := by
  obtain ⟨h1, h2, h3, h4, h5, h6, h7, -⟩ := I
  obtain ⟨-, -, -, -, ct, -, -, -, cK, cE, cS, -⟩ := C
  refine ⟨pBlind, fun U hU hW => ⟨rfl, by rw [hU]; exact h5, ?_, cK.moved hW.alike, ?_, (pBad.of ct).warm hW⟩⟩
  · rw [hU]
    exact pExt.moved hW.alike h6 (fun a ha => h7.2.1 a (by omega) (by omega))
  · rw [hU]
    exact pEnv.moved hW cE h7.2.1
theorem pAfter {l : Launch} {G : pG} {d : Nat} {M : pMeth} {bg b' : Nat × Nat} {pc : Nat} {lv : List (Nat × pV)} {full st : List pV} {μ : pM} {Q : Option pV → pM → Prop} {p : Program} {e : Env} {R : Room} {s : State} {m : MethodId} {args : Array Value} {below : List Frame} {meth : Method} {c : Code} {Qc : Array Value → State → Outcome → State → Prop} {mc ms : Nat} {free : Addr → Prop} {H : Heap} {locs : List Loc} {cells slots : Nat} {ls : Array Slot} {lvJ : List (Nat × Value)} {stJ rest : List Value}
    (ok : pOkD M) (C : pCx G d M p R s m args meth c) (I : pIn G M bg lv full μ Q R s args Qc mc ms free H locs cells slots ls lvJ stJ) (hrest : rest.map (pAbs G.1) = st) (hb : b'.1 ≤ bg.1 ∧ b'.2 ≤ bg.2)
    (hr : va_Run p l e R s m args below meth c H locs cells slots b'.1 b'.2 (F0 m pc ls stJ) rest (pPost G (fun r μ' => PW l G d M (bg.1 - b'.1, bg.2 - b'.2) (pc + 3) lv (r.toList ++ st) μ' Q)) (fun a => G.1 ≤ a)) : W p l e R s m args below meth c H locs cells slots (MQ below Qc args s mc ms free) (F0 m pc ls stJ) := by
  obtain ⟨h1, h2, h3, h4, h5, h6, h7, h8, h9, h10, h11, h12⟩ := I
  obtain ⟨-, -, -, -, -, -, -, -, cK, cE, cS, -⟩ := id C
  intro T hT X
  obtain ⟨v, st₀, t, T', L, h0, X', hL, e1, e2, ⟨v', μ', hv, hq, hp, hx, hw, hz, hk⟩, hst⟩ := hr T hT X
  cases hv
  rw [h0] at hz hk hx
  have hal : st₀.vm.Alike s.vm := hw.alike.trans (by rw [← e2]; exact X'.warmed.alike.symm)
  have hsH : ∀ a : Nat, a < G.1 → s.heap[a]? = H[a]? := fun a ha => (h7.2.1 a (by omega) (by omega)).symm
  obtain ⟨t2, a1, b1⟩ := hq ok p e R s m args below meth c C Qc mc ms free T'.heap (locs ++ L) (cells + b'.1) (slots + b'.2) ls lvJ (v.toList ++ rest)
    ⟨by dsimp only; omega, by dsimp only; omega, h3, h4, by rw [e1]; exact hp, pExt.moved hal hx hsH, ⟨Nat.le_trans h7.1 (by rw [e1]; exact hz), fun q g1 g2 => by
        rw [e1, hk q (Nat.lt_of_lt_of_le g1 h7.1) g2]; exact h7.2.1 q g1 g2, fun q hq => by
        rcases List.mem_append.mp hq with h | h
        · exact h7.2.2 q h
        · exact hL q h⟩, h8, h9, by rw [List.map_append, hrest]; cases v <;> rfl, h11, h12⟩ T' rfl X'
  exact ⟨t2, hst t2 a1, b1⟩
theorem pSplit {b : Nat} {stJ : List Value} {as st full : List pV} (h : stJ.map (pAbs b) = full) (hf : as.reverse ++ st = full) : ∃ As rest : List Value, stJ = As.reverse ++ rest ∧ As.map (pAbs b) = as ∧ rest.map (pAbs b) = st := by
  rw [← hf] at h
  obtain ⟨l1, l2, rfl, e1, e2⟩ := List.map_eq_append_iff.mp h
  exact ⟨l1.reverse, l2, by rw [List.reverse_reverse], by rw [List.map_reverse, e1, List.reverse_reverse], e2⟩
section PCS
variable {l : Launch} {G : pG} {d d' : Nat} {M N : pMeth} {bg b' : Nat × Nat} {pc q : Nat} {lv : List (Nat × pV)} {as st full : List pV} {μ : pM} {Q : Option pV → pM → Prop}
theorem s_callS {index : Nat} (k : Nat) (hf : M.2.2.2.2[k]? = some (pc, .invokestatic index, 3)) (hN : pStat N as.length) (hw : Cond.methodLink M.1.cls index N.1 ∈ lw_u) (hfull : as.reverse ++ st = full) (h : PC l G d' N b' as μ (fun r μ' => PW l G d M (bg.1 - b'.1, bg.2 - b'.2) q lv (r.toList ++ st) μ' Q)) (hq : pc + 3 = q := by rfl) (hd : d' + 1 ≤ d := by decide) (hb : b'.1 ≤ bg.1 ∧ b'.2 ≤ bg.2 := by decide) (hall : as.all (fun q => q.1 < 3) = true := by rfl) (hsz : pCat as ≤ N.2.2.1 := by exact Nat.le_of_ble_eq_true rfl) (hcat : pCat st ≤ 8 := by exact Nat.le_of_ble_eq_true rfl) (hall2 : st.all (fun q => q.1 < 3) = true := by rfl) : PW l G d M bg pc lv full μ Q := by
  subst hq
  intro ok p e R s m args below meth c C Qc mc ms free H locs cells slots ls lvJ stJ I
  obtain ⟨h1, h2, h3, h4, h5, h6, h7, h8, h9, h10, h11, h12⟩ := id I
  obtain ⟨As, rest, rfl, hA, hrest⟩ := pSplit h10 hfull
  obtain ⟨okN, hs, hp⟩ := hN
  obtain ⟨cx, cb, cm, co, ct, -, -, -, cK, -, -, cf, cl⟩ := id C
  have hM := pMet okN h hA hall hsz
  have h40 : N.2.2.1 ≤ 40 := okN.2.2.2.2.1
  have hlen : As.length = as.length := by rw [← hA, List.length_map]
  have hmn : N.2.2.1 ≤ 40 := h40
  refine pAfter ok C I hrest hb (va_runS (As := As) (rest := rest) ⟨cx, cb, cm, co, ct⟩ hM ⟨callB_of as.length ct (pWs_good okN) rfl rfl rfl (ct _ okN.2.2.1) (ct _ hw) ⟨okN.2.2.2.1.1, okN.2.2.2.1.2, hp⟩ ⟨by show d' + 1 + 1 ≤ _; omega, by show 8 + (N.2.2.1 + 11) + 64 * (d' + 1) ≤ _; omega⟩, ct _ hs⟩ (pPreOf C I As) rfl hlen h8.1 rfl ?_ (pDec ok hf) ⟨by omega, by omega⟩)
  show 2 * 0 + _ ≤ 8
  rw [pCat_eq hrest hall2]
  omega
theorem s_callV {index ci z : Nat} {x : Int} (k : Nat) (hf : M.2.2.2.2[k]? = some (pc, .invokevirtual index, 3)) (hN : pVirt N as.length ci) (hw : Cond.methodLink M.1.cls index N.1 ∈ lw_u) (hfull : ((2, x) :: as).reverse ++ st = full) (hK : μ.2.1 x = (ci, z)) (h : PC l G d' N b' ((2, x) :: as) μ (fun r μ' => PW l G d M (bg.1 - b'.1, bg.2 - b'.2) q lv (r.toList ++ st) μ' Q)) (hq : pc + 3 = q := by rfl) (hd : d' + 1 ≤ d := by decide) (hb : b'.1 ≤ bg.1 ∧ b'.2 ≤ bg.2 := by decide) (hall : ((2, x) :: as).all (fun q => q.1 < 3) = true := by rfl) (hsz : pCat ((2, x) :: as) ≤ N.2.2.1 := by exact Nat.le_of_ble_eq_true rfl) (hcat : pCat st ≤ 8 := by exact Nat.le_of_ble_eq_true rfl) (hall2 : st.all (fun q => q.1 < 3) = true := by rfl) : PW l G d M bg pc lv full μ Q := by
  subst hq
  obtain ⟨n, K, F, E⟩ := μ
  intro ok p e R s m args below meth c C Qc mc ms free H locs cells slots ls lvJ stJ I
  obtain ⟨h1, h2, h3, h4, h5, h6, h7, h8, h9, h10, h11, h12⟩ := id I
  obtain ⟨As, rest, rfl, hA, hrest⟩ := pSplit h10 hfull
  obtain ⟨v0, r0, rfl, a0, hs⟩ := pst_cons hA
  obtain ⟨okN, hi, hsel, hc, hcR, hp⟩ := hN
  obtain ⟨cx, cb, cm, co, ct, -, -, -, cK, -, -, cf, cl⟩ := id C
  obtain ⟨-, rfl, -, fs, ⟨cell, q1, q2, q3, q4⟩, -⟩ := pLocO h5 h6 a0 hK hc
  have hM := pMet okN h hA hall hsz
  have h40 : N.2.2.1 ≤ 40 := okN.2.2.2.2.1
  have hlen : r0.length = as.length := by rw [← hs, List.length_map]
  have hP := pPreOf C I (.ref (G.1 + x.toNat) :: r0)
  refine pAfter ok C I hrest hb (va_runV (C := N.1.cls) (As := r0) (rest := rest) ⟨cx, cb, cm, co, ct⟩ hM ⟨callB_of as.length ct (pWs_good okN) rfl rfl rfl (ct _ okN.2.2.1) (ct _ hw) ⟨okN.2.2.2.1.1, okN.2.2.2.1.2, hp⟩ ⟨by show d' + 1 + 1 ≤ _; omega, by show 8 + (N.2.2.1 + 11) + 64 * (d' + 1) ≤ _; omega⟩, ct _ hi, ct _ hsel⟩ ⟨hP.1, ⟨cell, q1, by rw [q3]; rfl, by rw [← hcR, q2]; exact (cK.1 ci hc).2.1⟩, hP.2⟩ rfl hlen h8.1 (by simp) ?_ (pDec ok hf) ⟨by omega, by omega⟩)
  show 2 * 0 + _ ≤ 8
  rw [pCat_eq hrest hall2]
  omega
theorem s_callI {index : Nat} {x : Int} (k : Nat) (hf : M.2.2.2.2[k]? = some (pc, .invokespecial index, 3)) (hN : pCtor N as.length) (hw : Cond.methodLink M.1.cls index N.1 ∈ lw_u) (hfull : ((2, x) :: as).reverse ++ st = full) (hx : 0 ≤ x) (h : PC l G d' N b' ((2, x) :: as) μ (fun r μ' => PW l G d M (bg.1 - b'.1, bg.2 - b'.2) q lv (r.toList ++ st) μ' Q)) (hq : pc + 3 = q := by rfl) (hd : d' + 1 ≤ d := by decide) (hb : b'.1 ≤ bg.1 ∧ b'.2 ≤ bg.2 := by decide) (hall : ((2, x) :: as).all (fun q => q.1 < 3) = true := by rfl) (hsz : pCat ((2, x) :: as) ≤ N.2.2.1 := by exact Nat.le_of_ble_eq_true rfl) (hcat : pCat st ≤ 8 := by exact Nat.le_of_ble_eq_true rfl) (hall2 : st.all (fun q => q.1 < 3) = true := by rfl) : PW l G d M bg pc lv full μ Q := by
  subst hq
  intro ok p e R s m args below meth c C Qc mc ms free H locs cells slots ls lvJ stJ I
  obtain ⟨h1, h2, h3, h4, h5, h6, h7, h8, h9, h10, h11, h12⟩ := id I
  obtain ⟨As, rest, rfl, hA, hrest⟩ := pSplit h10 hfull
  obtain ⟨v0, r0, rfl, a0, hs⟩ := pst_cons hA
  obtain ⟨okN, hi, hnm, hrt, hp⟩ := hN
  obtain ⟨cx, cb, cm, co, ct, -, -, -, cK, -, -, cf, cl⟩ := id C
  have := pAbs_ref a0 hx
  subst this
  have hM := pMet okN h hA hall hsz
  have h40 : N.2.2.1 ≤ 40 := okN.2.2.2.2.1
  have hlen : r0.length = as.length := by rw [← hs, List.length_map]
  have hP := pPreOf C I (.ref (G.1 + x.toNat) :: r0)
  refine pAfter ok C I hrest hb (va_runI (As := r0) (rest := rest) ⟨cx, cb, cm, co, ct⟩ hM ⟨callB_of as.length ct (pWs_good okN) (by unfold pWs; rw [hrt]) rfl rfl (ct _ okN.2.2.1) (ct _ hw) ⟨okN.2.2.2.1.1, okN.2.2.2.1.2, hp⟩ ⟨by show d' + 1 + 1 ≤ _; omega, by show 8 + (N.2.2.1 + 11) + 64 * (d' + 1) ≤ _; omega⟩, hnm, ct _ hi⟩ hP rfl hlen h8.1 (by simp) ?_ (pDec ok hf) ⟨by omega, by omega⟩)
  show 2 * 0 + _ ≤ 8
  rw [pCat_eq hrest hall2]
  omega
theorem s_callN {index : Nat} {x : Int} {host : String} (k : Nat) (hf : M.2.2.2.2[k]? = some (pc, .invokespecial index, 3)) (hN : pCtor N as.length) (hw : Cond.methodLinkNest M.1.cls index N.1 host ∈ lw_u) (hfull : ((2, x) :: as).reverse ++ st = full) (hx : 0 ≤ x) (h : PC l G d' N b' ((2, x) :: as) μ (fun r μ' => PW l G d M (bg.1 - b'.1, bg.2 - b'.2) q lv (r.toList ++ st) μ' Q)) (hq : pc + 3 = q := by rfl) (hd : d' + 1 ≤ d := by decide) (hb : b'.1 ≤ bg.1 ∧ b'.2 ≤ bg.2 := by decide) (hall : ((2, x) :: as).all (fun q => q.1 < 3) = true := by rfl) (hsz : pCat ((2, x) :: as) ≤ N.2.2.1 := by exact Nat.le_of_ble_eq_true rfl) (hcat : pCat st ≤ 8 := by exact Nat.le_of_ble_eq_true rfl) (hall2 : st.all (fun q => q.1 < 3) = true := by rfl) : PW l G d M bg pc lv full μ Q := by
  subst hq
  intro ok p e R s m args below meth c C Qc mc ms free H locs cells slots ls lvJ stJ I
  obtain ⟨h1, h2, h3, h4, h5, h6, h7, h8, h9, h10, h11, h12⟩ := id I
  obtain ⟨As, rest, rfl, hA, hrest⟩ := pSplit h10 hfull
  obtain ⟨v0, r0, rfl, a0, hs⟩ := pst_cons hA
  obtain ⟨okN, hi, hnm, hrt, hp⟩ := hN
  obtain ⟨cx, cb, cm, co, ct, -, -, -, cK, -, -, cf, cl⟩ := id C
  have := pAbs_ref a0 hx
  subst this
  have hM := pMet okN h hA hall hsz
  have h40 : N.2.2.1 ≤ 40 := okN.2.2.2.2.1
  have hlen : r0.length = as.length := by rw [← hs, List.length_map]
  have hP := pPreOf C I (.ref (G.1 + x.toNat) :: r0)
  refine pAfter ok C I hrest hb (va_runIN (host := host) (As := r0) (rest := rest) ⟨cx, cb, cm, co, ct⟩ hM ⟨va_cnB as.length ct (pWs_good okN) (by unfold pWs; rw [hrt]) rfl rfl (ct _ hw) (ct _ okN.2.2.1) ⟨okN.2.2.2.1.1, okN.2.2.2.1.2, hp⟩ ⟨by show d' + 1 + 1 ≤ _; omega, by show 8 + (N.2.2.1 + 11) + 64 * (d' + 1) ≤ _; omega⟩, hnm, ct _ hi⟩ hP rfl hlen h8.1 (by simp) ?_ (pDec ok hf) ⟨by omega, by omega⟩)
  show 2 * 0 + _ ≤ 8
  rw [pCat_eq hrest hall2]
  omega
end PCS
