/-! THE WALK'S RULES: objects and arrays made, references stored, arraycopy, calls -/
theorem cl_fl : ∀ k : Nat, k < 13 → ∀ j, j < cN k → cY k j ≠ .float ∧ cY k j ≠ .double := by decide +kernel
def pDef (ci : Nat) : Int → Int := fun j => if pTag (cY ci j.toNat) = 2 then -1 else 0
theorem pDefV {b : Nat} {ty : FieldType} (h : ty ≠ .float ∧ ty ≠ .double) : pAbs b (defaultValue ty) = (pTag ty, if pTag ty = 2 then -1 else 0) := by
  cases ty <;> first | rfl | exact absurd rfl h.1 | exact absurd rfl h.2
/-- a new cell -/
theorem pRep.push {G : pG} {n : Nat} {K : Int → Nat × Nat} {F E F' E' : Int → Int → Int} {H H1 : Heap} {κ : Nat × Nat} (hr : pRep G (n, K, F, E) H) (hc : pCell G κ n (F' n) (E' n) H1) (hF : ∀ a : Nat, a < n → F' a = F a) (hE : ∀ a : Nat, a < n → E' a = E a) (hs : H1.size = H.size + 1) (ho : ∀ q, q < H.size → H1[q]? = H[q]?) : pRep G (n + 1, pKu K n κ, F', E') H1 := by
  obtain ⟨h1, h2, h3, h4⟩ := hr
  dsimp only at h1
  refine ⟨by dsimp only; omega, fun a ha => ?_, fun a ha => ?_, ?_⟩
  · dsimp only at ha ⊢
    by_cases hq : a = n
    · subst hq
      rw [show pKu K (a : Int) κ (a : Int) = κ from if_pos rfl]
      exact hc
    · have hlt : a < n := by omega
      rw [show pKu K (n : Int) κ (a : Int) = K a from if_neg (by omega), hF a hlt, hE a hlt]
      exact (h2 a hlt).kept (ho _ (by omega))
  · dsimp only at ha ⊢
    rw [show pKu K (n : Int) κ (a : Int) = K a from if_neg (by omega)]
    exact h3 a (by dsimp only; omega)
  · dsimp only
    rw [show pKu K (n : Int) κ (-1) = K (-1) from if_neg (by omega)]
    exact h4
theorem pExt.push {G : pG} {s : State} {n n' : Nat} {K : Int → Nat × Nat} {F E F' E' : Int → Int → Int} {H0 : Heap} {κ : Nat × Nat} (he : pExt G s (n, K, F, E) H0) (hE : ∀ a : Int, a < 0 → E' a = E a) : pExt G s (n', pKu K n κ, F', E') H0 := by
  intro a ha
  have hn : pRef G.1 a < 0 := by unfold pRef; rw [if_neg (by omega)]; omega
  have := he a ha
  dsimp only at this ⊢
  rw [show pKu K (n : Int) κ (pRef G.1 a) = K (pRef G.1 a) from if_neg (by omega), hE _ hn]
  exact this
theorem pRow_at {f : Int → Int → Int} {a : Int} {g : Int → Int} : pRow f a g a = g := if_pos rfl
theorem pRow_ne {f : Int → Int → Int} {a b : Int} {g : Int → Int} (h : b ≠ a) : pRow f a g b = f b := if_neg h
section PN
variable {l : Launch} {G : pG} {d : Nat} {M : pMeth} {bg : Nat × Nat} {pc q : Nat} {lv : List (Nat × pV)} {st : List pV} {Q : Option pV → pM → Prop} {n : Nat} {K : Int → Nat × Nat} {F E : Int → Int → Int}
theorem s_new {index : Nat} (k ci bc bs : Nat) (hf : M.2.2.2.2[k]? = some (pc, .new index, 3)) (hc : ci < 13) (hcl : Cond.classLink M.1.cls index (cR ci) ∈ lw_u) (hins : Cond.instantiable (cR ci) (cN ci) ∈ lw_u) (hini : Cond.initialized (cR ci) ∈ lw_u) (hb : bc + 1 ≤ bg.1 ∧ bs + cN ci ≤ bg.2) (h : PW l G d M (bc, bs) q lv ((2, (n : Int)) :: st) (n + 1, pKu K n (ci, 0), pRow F n (pDef ci), E) Q) (hq : pc + 3 = q := by rfl) : PW l G d M bg pc lv st (n, K, F, E) Q := by
  subst hq
  intro ok p e R s m args below meth c C Qc mc ms free H locs cells slots ls lvJ stJ ⟨h1, h2, h3, h4, h5, h6, h7, h8, h9, h10, h11, h12⟩
  obtain ⟨cx, cb, cm, co, ct, -, -, -, cK, -⟩ := id C
  have hKn := cK.1 ci hc
  have hsz : H.size = G.1 + n := h5.1
  refine W.newcK cx cb co (ct _ hcl) (ct _ hins) (ct _ hini) rfl (pDec ok hf) (by omega) (by omega) hKn.2.1 rfl fun H1 kC hkC e1 z1 o1 => ?_
  have hob := u_born (o := H.size) (cY ci) ct (cl_in ci hc) hKn hkC e1 (cl_ty ci hc)
  refine h ok p e R s m args below meth c C Qc mc ms free H1 locs (cells + 1) (slots + cN ci) ls lvJ _ ⟨by dsimp only; omega, by dsimp only; omega, h3, h4, ?_, h6.push (fun _ _ => rfl), ⟨by have := h7.1; omega, fun q g1 g2 => (o1 q (Nat.lt_of_lt_of_le g1 h7.1)).trans (h7.2.1 q g1 g2), h7.2.2⟩, h8, h9, ?_, h11, h12⟩
  · refine h5.push (Or.inl ⟨hc, _, by rw [← hsz]; exact hob, fun j hj => ?_⟩) (fun a ha => pRow_ne (by omega)) (fun _ _ => rfl) z1 o1
    rw [pRow_at, pDefV (cl_fl ci hc j hj)]
    rfl
  · simp only [List.map_cons, pAbs, h10, hsz, pRef_of]
def pAt (t : Nat) : ArrayType := match t with
  | 0 => .int
  | 1 => .long
  | 2 => .byte
  | _ => .boolean
theorem s_newa {x : Int} (k t bc bs : Nat) (hf : M.2.2.2.2[k]? = some (pc, .newarray (pAt t), 2)) (ht : t < 4) (hcl : Cond.arrayClass (newarray.typeOf (pAt t)) ∈ lw_u) (hx : 0 ≤ x ∧ x ≤ 60000000) (hb : bc + 1 ≤ bg.1 ∧ bs + x.toNat ≤ bg.2) (h : PW l G d M (bc, bs) q lv ((2, (n : Int)) :: st) (n + 1, pKu K n (20 + t, x.toNat), F, pRow E n (fun _ => 0)) Q) (hq : pc + 2 = q := by rfl) : PW l G d M bg pc lv ((0, x) :: st) (n, K, F, E) Q := by
  subst hq
  intro ok p e R s m args below meth c C Qc mc ms free H locs cells slots ls lvJ stJ ⟨h1, h2, h3, h4, h5, h6, h7, h8, h9, h10, h11, h12⟩
  obtain ⟨v0, r0, rfl, a0, hs⟩ := pst_cons h10
  obtain ⟨jx, rfl, ex⟩ := pAbs_int a0
  obtain ⟨cx, cb, cm, co, ct, -, -, -, cK, -⟩ := id C
  have hsz : H.size = G.1 + n := h5.1
  have hty : newarray.typeOf (pAt t) = pTy t ∧ componentBytes (pTy t) ≤ 8 ∧ pAbs G.1 (defaultValue (pTy t)) = (pTag (pTy t), 0) := by
    rcases (show t = 0 ∨ t = 1 ∨ t = 2 ∨ t = 3 by omega) with rfl | rfl | rfl | rfl <;> exact ⟨rfl, by decide, rfl⟩
  have hN : jx.toNatClampNeg = x.toNat := by rw [i32_clamp, ex]
  have hb8 : x.toNat * componentBytes (pTy t) ≤ 536870912 := by
    have h60 : x.toNat ≤ 60000000 := by omega
    have := Nat.mul_le_mul h60 hty.2.1
    omega
  refine va_newaK cx cb (ct _ hcl) rfl (pDec ok hf) rfl (by rw [Int32.lt_iff_toInt_lt, ex]; have : (0 : Int32).toInt = 0 := rfl; omega) hN (by rw [hty.1]; exact hb8) (by omega) (by omega) rfl fun H1 cA e1 z1 o1 hAr hNm => ?_
  have hcA : cA = G.2.2.2.1 t := by
    have h := (cK.2 t (by omega)).2
    rw [hty.1] at hNm
    rcases (show t = 0 ∨ t = 1 ∨ t = 2 ∨ t = 3 by omega) with rfl | rfl | rfl | rfl <;> exact Option.some.inj (hNm.symm.trans h)
  subst hcA
  rw [hty.1] at e1
  refine h ok p e R s m args below meth c C Qc mc ms free H1 locs (cells + 1) (slots + x.toNat) ls lvJ _ ⟨by dsimp only; omega, by dsimp only; omega, h3, h4, ?_, h6.push (fun a ha => pRow_ne (by omega)), ⟨by have := h7.1; omega, fun q g1 g2 => (o1 q (Nat.lt_of_lt_of_le g1 h7.1)).trans (h7.2.1 q g1 g2), h7.2.2⟩, h8, h9, ?_, h11, h12⟩
  · refine h5.push (Or.inr ⟨by dsimp only; omega, by dsimp only; omega, ?_⟩) (fun _ _ => rfl) (fun a ha => pRow_ne (by omega)) z1 o1
    dsimp only
    rw [Nat.add_sub_cancel_left]
    refine ⟨by omega, _, by rw [← hsz]; exact e1, fun j hj => ?_⟩
    rw [pRow_at]
    exact hty.2.2
  · simp only [List.map_cons, pAbs, hs, hsz, pRef_of]
theorem s_newq {index : Nat} {x : Int} (k t bc bs : Nat) (hf : M.2.2.2.2[k]? = some (pc, .anewarray index, 3)) (ht : t = 4 ∨ t = 5) (hcl : Cond.classLink M.1.cls index (if t = 4 then cR 1 else cR 9) ∈ lw_u) (hov : Cond.arrayOver (.object (if t = 4 then cR 1 else cR 9)) ∈ lw_u) (hx : 0 ≤ x ∧ x ≤ 60000000) (hb : bc + 1 ≤ bg.1 ∧ bs + x.toNat ≤ bg.2) (h : PW l G d M (bc, bs) q lv ((2, (n : Int)) :: st) (n + 1, pKu K n (20 + t, x.toNat), F, pRow E n (fun _ => -1)) Q) (hq : pc + 3 = q := by rfl) : PW l G d M bg pc lv ((0, x) :: st) (n, K, F, E) Q := by
  subst hq
  intro ok p e R s m args below meth c C Qc mc ms free H locs cells slots ls lvJ stJ ⟨h1, h2, h3, h4, h5, h6, h7, h8, h9, h10, h11, h12⟩
  obtain ⟨v0, r0, rfl, a0, hs⟩ := pst_cons h10
  obtain ⟨jx, rfl, ex⟩ := pAbs_int a0
  obtain ⟨cx, cb, cm, co, ct, -, -, -, cK, -⟩ := id C
  have hsz : H.size = G.1 + n := h5.1
  have hN : jx.toNatClampNeg = x.toNat := by rw [i32_clamp, ex]
  have hty : pTy t = .object (if t = 4 then cR 1 else cR 9) ∧ pTag (pTy t) = 2 := by rcases ht with rfl | rfl <;> exact ⟨rfl, rfl⟩
  refine W.anew cx cb co (ct _ hcl) (ct _ hov) rfl (pDec ok hf) rfl (by rw [Int32.lt_iff_toInt_lt, ex]; have : (0 : Int32).toInt = 0 := rfl; omega) (by omega) (by omega) (by omega) fun cA kA comp f1 f2 f3 f4 => ?_
  rw [hN]
  generalize hH1 : H.push ({ cls := cA, slots := Array.replicate x.toNat .null, vm := .none } : Cell) = H1
  have z1 : H1.size = H.size + 1 := by rw [← hH1, Array.size_push]
  have e1 : H1[H.size]? = some (arrV cA x.toNat (fun _ => .null)) := by rw [← hH1, Array.getElem?_push_size, ← arrV_new]
  have o1 : ∀ q : Nat, q < H.size → H1[q]? = H[q]? := fun q hq => by rw [← hH1, Array.getElem?_push, if_neg (Nat.ne_of_lt hq)]
  have hcA : cA = G.2.2.2.1 t := by
    have h := (cK.2 t (by omega)).2
    rw [hty.1] at h
    obtain ⟨_, _, -, -, -, h4⟩ := h
    exact Option.some.inj (f1.symm.trans h4)
  subst hcA
  refine h ok p e R s m args below meth c C Qc mc ms free H1 locs (cells + 1) (slots + x.toNat) ls lvJ _ ⟨by dsimp only; omega, by dsimp only; omega, h3, h4, ?_, h6.push (fun a ha => pRow_ne (by omega)), ⟨by have := h7.1; omega, fun q g1 g2 => (o1 q (Nat.lt_of_lt_of_le g1 h7.1)).trans (h7.2.1 q g1 g2), h7.2.2⟩, h8, h9, ?_, h11, h12⟩
  · refine h5.push (Or.inr ⟨by dsimp only; omega, by dsimp only; omega, ?_⟩) (fun _ _ => rfl) (fun a ha => pRow_ne (by omega)) z1 o1
    dsimp only
    rw [Nat.add_sub_cancel_left]
    refine ⟨by omega, _, by rw [← hsz]; exact e1, fun j hj => ?_⟩
    rw [pRow_at, hty.2]
    rfl
  · simp only [List.map_cons, pAbs, hs, hsz, pRef_of]
theorem s_aast {z t zc : Nat} {x i y : Int} (k : Nat) (hf : M.2.2.2.2[k]? = some (pc, .aastore, 1)) (hK : K x = (20 + t, z)) (ht : t = 4 ∨ t = 5) (hx : 0 ≤ x) (hi : 0 ≤ i ∧ i < z) (hy : y = -1 ∨ K y = (if t = 4 then 1 else 9, zc)) (h : PW l G d M bg q lv st (n, K, F, pUp E x i y) Q) (hq : pc + 1 = q := by rfl) : PW l G d M bg pc lv ((2, y) :: (0, i) :: (2, x) :: st) (n, K, F, E) Q := by
  subst hq
  intro ok p e R s m args below meth c C Qc mc ms free H locs cells slots ls lvJ stJ ⟨h1, h2, h3, h4, h5, h6, h7, h8, h9, h10, h11, h12⟩
  obtain ⟨v2, r2, rfl, a2, hs2⟩ := pst_cons h10
  obtain ⟨v1, r1, rfl, a1, hs1⟩ := pst_cons hs2
  obtain ⟨v0, r0, rfl, a0, hs⟩ := pst_cons hs1
  obtain ⟨ji, rfl, ei⟩ := pAbs_int a1
  obtain ⟨cx, cb, cm, co, ct, -, -, -, cK, -⟩ := id C
  obtain ⟨rfl, hl, hz, g, g1, g2⟩ := pLocA h5 h6 a0 hK (by omega) hx
  have hty : pTy t = .object (cR (if t = 4 then 1 else 9)) ∧ pTag (pTy t) = 2 := by rcases ht with rfl | rfl <;> exact ⟨rfl, rfl⟩
  have hci : (if t = 4 then 1 else 9) < 13 := by rcases ht with rfl | rfl <;> decide
  have done : ∀ H' : Heap, H'[G.1 + x.toNat]? = some ((arrV (G.2.2.2.1 t) z g).setSlot ji.toNatClampNeg v2) → H'.size = H.size → (∀ q, q ≠ G.1 + x.toNat → H'[q]? = H[q]?) → W p l e R s m args below meth c H' (locs ++ [⟨G.1 + x.toNat, ji.toNatClampNeg⟩]) cells slots (MQ below Qc args s mc ms free) (F0 m (pc + 1) ls r0) := by
    intro H' e1 e2 e3
    rw [i32_clamp, ei, arrV_store] at e1
    exact h ok p e R s m args below meth c C Qc mc ms free H' _ cells slots ls lvJ _ ⟨h1, h2, h3, h4, h5.setE hx hl hK (by omega) hz g2 hi.1 (by rw [hty.2]; exact a2) e1 e2 e3, h6.setE hx, h7.put e2 e3 (Nat.le_add_right _ _), h8, h9, hs, h11, h12⟩
  rcases hy with rfl | hy
  · have := pAbs_null a2
    subst this
    have hA := (cK.2 t (by omega)).1 z g
    rw [hty.1] at hA
    exact va_WaastN cx cb g1 hA (fun q => by cases q) (by rw [arrV_size]; exact pIx ei hi.1 hi.2) rfl rfl (pDec ok hf) done
  · obtain ⟨hy0, rfl, hyn, fs, ⟨cell, q1, q2, q3, q4⟩, -⟩ := pLocO h5 h6 a2 hy hci
    have hcls := (cK.1 _ hci).2
    have hRA := (cK.2 t (by omega)).2
    rw [hty.1] at hRA
    obtain ⟨kA, comp, k1, k2, k3, -⟩ := hRA
    have hcomp : comp = G.2.1 (if t = 4 then 1 else 9) := Option.some.inj (k3.symm.trans hcls.1)
    subst hcomp
    obtain ⟨kC, hkC, -⟩ := hcls.2
    have hix := pIx ei hi.1 hi.2
    exact W.aast cx cb g1 (fun q h => by cases h) (fun h => by cases h) k1 k2 rfl hkC ⟨fun q => hix (Or.inl q), by rw [arrV_size]; exact Nat.not_le.mp fun q => hix (Or.inr q)⟩ q1 (fun q h => by rw [q3] at h; cases h) (by rw [q2]; exact hkC) (by rw [q2]; exact va_assign hcls) rfl rfl (pDec ok hf) done
/-- the two static arrays -/
theorem s_getL {index : Nat} (k : Nat) (w : Nat) (hf : M.2.2.2.2[k]? = some (pc, .getstatic index, 3)) (hw : Cond.fieldLink M.1.cls index "JoinRouter" (if w = 0 then "LEAST_TERM" else "MOST_TERM") "[I" ∈ lw_u) (hw2 : w = 0 ∨ w = 1) (h : PW l G d M bg q lv ((2, pRef G.1 (G.2.2.2.2 w)) :: st) (n, K, F, E) Q) (hq : pc + 3 = q := by rfl) : PW l G d M bg pc lv st (n, K, F, E) Q := by
  subst hq
  intro ok p e R s m args below meth c C Qc mc ms free H locs cells slots ls lvJ stJ ⟨h1, h2, h3, h4, h5, h6, h7, h8, h9, h10, h11, h12⟩
  obtain ⟨cx, cb, cm, co, ct, -, -, -, cK, ⟨z1, z2, -⟩, -⟩ := id C
  rcases hw2 with rfl | rfl
  · refine va_gets cx cb z1 h7 co (ct _ hw) (fun _ h => h) (pDec ok hf) ?_
    exact h ok p e R s m args below meth c C Qc mc ms free H locs cells slots ls lvJ _ ⟨h1, h2, h3, h4, h5, h6, h7, h8, h9, by simp only [List.map_cons, pAbs, h10], h11, h12⟩
  · refine va_gets cx cb z2 h7 co (ct _ hw) (fun _ h => h) (pDec ok hf) ?_
    exact h ok p e R s m args below meth c C Qc mc ms free H locs cells slots ls lvJ _ ⟨h1, h2, h3, h4, h5, h6, h7, h8, h9, by simp only [List.map_cons, pAbs, h10], h11, h12⟩
def pCpy (E : Int → Int → Int) (a0 sp a1 dp len : Int) : Int → Int := fun j => if dp ≤ j ∧ j < dp + len then E a0 (sp + (j - dp)) else E a1 j
def pCat (st : List pV) : Nat := (st.map fun v => if v.1 = 1 then 2 else 1).sum
theorem pCat_eq {b : Nat} {stJ : List Value} {st : List pV} (h : stJ.map (pAbs b) = st) (hc : st.all (fun q => q.1 < 3) = true) : (stJ.map fun v => v.category).sum = pCat st := by
  subst h
  unfold pCat
  rw [List.map_map]
  congr 1
  apply List.map_congr_left
  intro v hv
  have h3 := List.all_eq_true.mp hc _ (List.mem_map_of_mem (f := pAbs b) hv)
  simp only [decide_eq_true_eq] at h3
  exact pAbs_cat (t := (pAbs b v).1) (x := (pAbs b v).2) rfl h3
theorem s_copy {index n0 n1 : Nat} {a0 a1 sp dp len : Int} (k : Nat) (hf : M.2.2.2.2[k]? = some (pc, .invokestatic index, 3)) (hw : Cond.methodLink M.1.cls index arraycopyName ∈ lw_u) (hK0 : K a0 = (20, n0)) (hK1 : K a1 = (20, n1)) (hx0 : 0 ≤ a0) (hx1 : 0 ≤ a1) (hsp : 0 ≤ sp) (hdp : 0 ≤ dp) (hlen : 0 ≤ len) (hs0 : sp + len ≤ n0) (hd0 : dp + len ≤ n1) (h : PW l G d M bg q lv st (n, K, F, pRow E a1 (pCpy E a0 sp a1 dp len)) Q) (hq : pc + 3 = q := by rfl) (hcat : pCat st ≤ 8 := by exact Nat.le_of_ble_eq_true rfl) (hall : st.all (fun q => q.1 < 3) = true := by rfl) : PW l G d M bg pc lv ((0, len) :: (0, dp) :: (2, a1) :: (0, sp) :: (2, a0) :: st) (n, K, F, E) Q := by
  subst hq
  intro ok p e R s m args below meth c C Qc mc ms free H locs cells slots ls lvJ stJ ⟨h1, h2, h3, h4, h5, h6, h7, h8, h9, h10, h11, h12⟩
  obtain ⟨v4, r4, rfl, b4, hs4⟩ := pst_cons h10
  obtain ⟨v3, r3, rfl, b3, hs3⟩ := pst_cons hs4
  obtain ⟨v2, r2, rfl, b2, hs2⟩ := pst_cons hs3
  obtain ⟨v1, r1, rfl, b1, hs1⟩ := pst_cons hs2
  obtain ⟨v0, r0, rfl, b0, hs⟩ := pst_cons hs1
  obtain ⟨jn, rfl, en⟩ := pAbs_int b4
  obtain ⟨jd, rfl, ed⟩ := pAbs_int b3
  obtain ⟨js, rfl, es⟩ := pAbs_int b1
  obtain ⟨cx, cb, cm, co, ct, -, -, -, cK, -, -, cf, cl⟩ := id C
  obtain ⟨rfl, hl0, hz0, g, g1, g2⟩ := pLocA (t := 0) h5 h6 b0 hK0 (by omega) hx0
  obtain ⟨rfl, hl1, hz1, f, f1, f2⟩ := pLocA (t := 0) h5 h6 b2 hK1 (by omega) hx1
  have neg : ∀ z : Int32, 0 ≤ z.toInt → ¬ z < 0 := fun z hz q => by
    have : z.toInt < 0 := Int32.lt_iff_toInt_lt.mp q
    omega
  have hc := pCat_eq hs hall
  intro T hT X
  obtain ⟨-, k0, hk0, cm0, hkk0⟩ := (cK.2 0 (by omega)).1 n0 g
  obtain ⟨-, k1, hk1, cm1, hkk1⟩ := (cK.2 0 (by omega)).1 n1 f
  have hel : ∀ i, i < len.toNat → (arrV (G.2.2.2.1 0) n0 g).slots.getD (sp.toNat + i) .null = g (sp.toNat + i) := by
    intro i hi
    rw [Array.getD_eq_getD_getElem?, arrV_read _ _ (by omega)]
    rfl
  obtain ⟨vm', X', step⟩ := X.arraycopy cx co (ct _ hw) (ct (.native arraycopyName) (tb2 (List.mem_of_getElem? (i := 179) (by decide +kernel)))) (ct (.static arraycopyName) (tb2 (List.mem_of_getElem? (i := 178) (by decide +kernel)))) (ct (.initialized "java/lang/System") (tb1 (List.mem_of_getElem? (i := 14) (by decide +kernel)))) (src := G.1 + a0.toNat) (dst := G.1 + a1.toNat) (cs := arrV (G.2.2.2.1 0) n0 g) (cd := arrV (G.2.2.2.1 0) n1 f) (srcPos := js) (destPos := jd) (n := jn) (by rw [hT]; exact g1) (by rw [hT]; exact f1)
    (fun _ h => by cases h) (fun _ h => by cases h) (fun h => by cases h) (fun h => by cases h) hk0 hk1 hkk0 hkk1 (by rfl) (neg _ (by omega)) (neg _ (by omega)) (neg _ (by omega))
    (by rw [arrV_size]; omega) (by rw [arrV_size]; omega)
    (fun vm₁ _ i hi => by
      rw [i32_clamp, en] at hi
      rw [i32_clamp, es, hel i hi]
      obtain ⟨w, hw, -⟩ := pAbs_int (g2 (sp.toNat + i) (by omega))
      rw [hw]
      exact ⟨rfl, trivial⟩)
    (g := F0 m pc ls (.int jn :: .int jd :: .ref (G.1 + a1.toNat) :: .int js :: .ref (G.1 + a0.toNat) :: r0)) rfl (by rw [cm]; exact h8.1) (rest := r0) rfl (by rw [cb]; exact pDec ok hf) (by omega) (by
      show 2 * 0 + _ + (7 + 11) ≤ _
      rw [hc]
      omega)
  have e1 : copied (arrV (G.2.2.2.1 0) n0 g) (arrV (G.2.2.2.1 0) n1 f) js jd jn = arrV (G.2.2.2.1 0) n1 (va_cpy g f sp.toNat dp.toNat len.toNat) := by
    have := va_copied (fun z : Value => z) (G.2.2.2.1 0) (G.2.2.2.1 0) (n0 := n0) (n1 := n1) (sp := sp.toNat) (dp := dp.toNat) (n := len.toNat) g f (by omega)
    rw [show sp.toNat = js.toNatClampNeg by rw [i32_clamp, es], show dp.toNat = jd.toNatClampNeg by rw [i32_clamp, ed], show len.toNat = jn.toNatClampNeg by rw [i32_clamp, en]]
    rw [show sp.toNat = js.toNatClampNeg by rw [i32_clamp, es], show dp.toNat = jd.toNatClampNeg by rw [i32_clamp, ed], show len.toNat = jn.toNatClampNeg by rw [i32_clamp, en]] at this
    exact this
  rw [e1] at X' step
  have hl : G.1 + a1.toNat < H.size := (Array.getElem?_eq_some_iff.mp f1).1
  generalize hnew : arrV (G.2.2.2.1 0) n1 (va_cpy g f sp.toNat dp.toNat len.toNat) = cn at X' step
  have hheap : ((T.setVm vm').setCell (G.1 + a1.toNat) cn).heap = H.setIfInBounds (G.1 + a1.toNat) cn := by rw [← hT]; rfl
  have oq : ∀ q : Nat, q ≠ G.1 + a1.toNat → (H.setIfInBounds (G.1 + a1.toNat) cn)[q]? = H[q]? := fun q hq => by simp [Array.getElem?_setIfInBounds, Ne.symm hq]
  have ea : (H.setIfInBounds (G.1 + a1.toNat) cn)[G.1 + a1.toNat]? = some cn := by simp [Array.getElem?_setIfInBounds, hl]
  have hRep : pRep G (n, K, F, pRow E a1 (pCpy E a0 sp a1 dp len)) (H.setIfInBounds (G.1 + a1.toNat) cn) := by
    obtain ⟨u1, u2, u3, u4⟩ := h5
    refine ⟨by dsimp only at u1 ⊢; rw [Array.size_setIfInBounds]; exact u1, fun a ha => ?_, u3, u4⟩
    dsimp only at ha ⊢
    by_cases hq : a = a1.toNat
    · subst hq
      rw [pToN hx1, hK1, pRow_at]
      refine Or.inr ⟨by dsimp only; omega, by dsimp only; omega, hz1, va_cpy g f sp.toNat dp.toNat len.toNat, by rw [ea, ← hnew]; rfl, fun j hj => ?_⟩
      simp only [va_cpy, pCpy]
      by_cases hr : dp.toNat ≤ j ∧ j < dp.toNat + len.toNat
      · rw [if_pos hr, if_pos (by omega), g2 _ (by omega)]
        congr 2
        omega
      · rw [if_neg hr, if_neg (by omega)]
        exact f2 j hj
    · have := (u2 a ha).kept (H1 := H.setIfInBounds (G.1 + a1.toNat) cn) (oq _ (by omega))
      dsimp only at this
      rw [pRow_ne (by omega)]
      exact this
  have hExt : pExt G s (n, K, F, pRow E a1 (pCpy E a0 sp a1 dp len)) s.heap := by
    intro a ha
    have hn : pRef G.1 a < 0 := by unfold pRef; rw [if_neg (by omega)]; omega
    have := h6 a ha
    dsimp only at this ⊢
    rw [pRow_ne (by omega)]
    exact this
  obtain ⟨t, a1', b1'⟩ := h ok p e R s m args below meth c C Qc mc ms free (H.setIfInBounds (G.1 + a1.toNat) cn) _ cells slots ls lvJ r0 ⟨h1, h2, h3, h4, hRep, hExt, ⟨by simp; exact h7.1, fun q g1 g2 => by
      rw [oq q (fun e => g2 (by rw [e]; exact Nat.le_add_right _ _))]
      exact h7.2.1 q g1 g2, fun q hq => by
      rcases List.mem_append.mp hq with h | h
      · exact h7.2.2 q h
      · obtain ⟨z, -, hz⟩ := List.mem_map.mp h
        rw [← hz]
        exact Nat.le_add_right _ _⟩, h8, h9, hs, h11, h12⟩ _ hheap X'
  exact ⟨t, step t a1', b1'⟩
theorem s_obj {index : Nat} {x : Int} (k : Nat) (hf : M.2.2.2.2[k]? = some (pc, .invokespecial index, 3)) (hw : Cond.methodLink M.1.cls index objectInit ∈ lw_u) (hx : 0 ≤ x) (h : PW l G d M bg q lv st (n, K, F, E) Q) (hq : pc + 3 = q := by rfl) (hcat : pCat st ≤ 8 := by exact Nat.le_of_ble_eq_true rfl) (hall : st.all (fun q => q.1 < 3) = true := by rfl) : PW l G d M bg pc lv ((2, x) :: st) (n, K, F, E) Q := by
  subst hq
  intro ok p e R s m args below meth c C Qc mc ms free H locs cells slots ls lvJ stJ ⟨h1, h2, h3, h4, h5, h6, h7, h8, h9, h10, h11, h12⟩
  obtain ⟨v0, r0, rfl, a0, hs⟩ := pst_cons h10
  have := pAbs_ref a0 hx
  subst this
  obtain ⟨cx, cb, cm, co, ct, -, -, -, cK, -, -, cf, cl⟩ := id C
  have hc := pCat_eq hs hall
  refine W.objInit cx cb co (ct _ hw) (ct _ (tb1 (List.mem_of_getElem? (i := 26) (by decide +kernel)))) (ct _ (tb1 (List.mem_of_getElem? (i := 27) (by decide +kernel)))) rfl (by rw [cm]; exact h8.1) rfl (pDec ok hf) (by omega) (by
    show 2 * 0 + _ + 12 ≤ _
    rw [hc]
    omega) ?_
  exact h ok p e R s m args below meth c C Qc mc ms free H locs cells slots ls lvJ _ ⟨h1, h2, h3, h4, h5, h6, h7, h8, h9, hs, h11, h12⟩
end PN
