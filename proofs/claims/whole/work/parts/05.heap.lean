/-! THE WALK'S RULES FOR THE HEAP: fields, arrays, making, returning -/
def pUp (f : Int → Int → Int) (a k v : Int) : Int → Int → Int := fun a' k' => if a' = a ∧ k' = k then v else f a' k'
def pRow (f : Int → Int → Int) (a : Int) (g : Int → Int) : Int → Int → Int := fun a' => if a' = a then g else f a'
def pKu (K : Int → Nat × Nat) (a : Int) (κ : Nat × Nat) : Int → Nat × Nat := fun a' => if a' = a then κ else K a'
theorem pToN {x : Int} (h : 0 ≤ x) : ((x.toNat : Nat) : Int) = x := Int.toNat_of_nonneg h
theorem pObj.kept {G : pG} {k a : Nat} {f : Int → Int} {H H1 : Heap} (h : pObj G k a f H) (e : H1[G.1 + a]? = H[G.1 + a]?) : pObj G k a f H1 := by
  obtain ⟨fs, h1, h2⟩ := h
  exact ⟨fs, h1.kept e, h2⟩
theorem pArr.kept {G : pG} {t n a : Nat} {f : Int → Int} {H H1 : Heap} (h : pArr G t n a f H) (e : H1[G.1 + a]? = H[G.1 + a]?) : pArr G t n a f H1 := by
  obtain ⟨h0, g, h1, h2⟩ := h
  exact ⟨h0, g, by rw [e]; exact h1, h2⟩
theorem pCell.kept {G : pG} {κ : Nat × Nat} {a : Nat} {f g : Int → Int} {H H1 : Heap} (h : pCell G κ a f g H) (e : H1[G.1 + a]? = H[G.1 + a]?) : pCell G κ a f g H1 := by
  rcases h with ⟨h1, h2⟩ | ⟨h1, h2, h3⟩
  · exact Or.inl ⟨h1, h2.kept e⟩
  · exact Or.inr ⟨h1, h2, h3.kept e⟩
/-- where a reference leads -/
theorem pLoc {G : pG} {s : State} {n : Nat} {K : Int → Nat × Nat} {F E : Int → Int → Int} {H H0 : Heap} {v : Value} {x : Int} {k z : Nat} (hr : pRep G (n, K, F, E) H) (he : pExt G s (n, K, F, E) H0) (hv : pAbs G.1 v = (2, x)) (hK : K x = (k, z)) (hk : k < 99) :
    (0 ≤ x ∧ v = .ref (G.1 + x.toNat) ∧ x.toNat < n ∧ pCell G (k, z) x.toNat (F x) (E x) H) ∨ (x < -1 ∧ k = 20 ∧ ∃ a : Nat, v = .ref a ∧ a < G.1 ∧ ∃ cell : Cell, H0[a]? = some cell ∧ s.isArrayOf cell .int ∧ cell.vm ≠ .unknown ∧ cell.slots.size = z ∧ z < 2147483648 ∧ ∀ j : Nat, j < z → ∃ i : Int32, cell.slots[j]? = some (.int i) ∧ i.toInt = E x j) := by
  obtain ⟨-, h2, h3, h4⟩ := hr
  by_cases hx : 0 ≤ x
  · left
    have e := pToN hx
    refine ⟨hx, pAbs_ref hv hx, ?_, ?_⟩
    · rcases Nat.lt_or_ge x.toNat n with q | q
      · exact q
      · have := h3 _ q
        dsimp only at this
        rw [e, hK] at this
        dsimp only at this
        omega
    · have hl : x.toNat < n := by
        rcases Nat.lt_or_ge x.toNat n with q | q
        · exact q
        · have := h3 _ q
          dsimp only at this
          rw [e, hK] at this
          dsimp only at this
          omega
      have := h2 _ hl
      dsimp only at this
      rw [e, hK] at this
      exact this
  · right
    have hx1 : x ≠ -1 := by
      intro q
      dsimp only at h4
      rw [← q, hK] at h4
      dsimp only at h4
      omega
    obtain ⟨a, rfl, ha⟩ := pAbs_refn hv hx1
    have hlt : a < G.1 := pRef_lt (b := G.1) (by rw [ha]; omega)
    rcases he a hlt with q | ⟨n', q, cell, g⟩
    · dsimp only at q
      rw [ha, hK] at q
      dsimp only at q
      omega
    · dsimp only at q
      rw [ha, hK] at q
      cases q
      refine ⟨by omega, rfl, a, rfl, hlt, cell, ?_⟩
      dsimp only at g
      rw [ha] at g
      exact g
theorem pObj_of {G : pG} {k z a : Nat} {f g : Int → Int} {H : Heap} (h : pCell G (k, z) a f g H) (hk : k < 13) : pObj G k a f H := by
  rcases h with ⟨-, h⟩ | ⟨h1, -⟩
  · exact h
  · dsimp only at h1; omega
theorem pArr_of {G : pG} {t z a : Nat} {f g : Int → Int} {H : Heap} (h : pCell G (20 + t, z) a f g H) : pArr G t z a g H := by
  rcases h with ⟨h1, -⟩ | ⟨-, -, h⟩
  · dsimp only at h1; omega
  · dsimp only at h
    rw [Nat.add_sub_cancel_left] at h
    exact h
/-- an object's place by its class's number -/
theorem pLocO {G : pG} {s : State} {n : Nat} {K : Int → Nat × Nat} {F E : Int → Int → Int} {H H0 : Heap} {v : Value} {x : Int} {k z : Nat} (hr : pRep G (n, K, F, E) H) (he : pExt G s (n, K, F, E) H0) (hv : pAbs G.1 v = (2, x)) (hK : K x = (k, z)) (hk : k < 13) :
    0 ≤ x ∧ v = .ref (G.1 + x.toNat) ∧ x.toNat < n ∧ pObj G k x.toNat (F x) H := by
  rcases pLoc hr he hv hK (by omega) with ⟨h1, h2, h3, h4⟩ | ⟨-, h, -⟩
  · exact ⟨h1, h2, h3, pObj_of h4 hk⟩
  · omega
theorem pLocA {G : pG} {s : State} {n : Nat} {K : Int → Nat × Nat} {F E : Int → Int → Int} {H H0 : Heap} {v : Value} {x : Int} {t z : Nat} (hr : pRep G (n, K, F, E) H) (he : pExt G s (n, K, F, E) H0) (hv : pAbs G.1 v = (2, x)) (hK : K x = (20 + t, z)) (ht : t < 6) (hx : 0 ≤ x) :
    v = .ref (G.1 + x.toNat) ∧ x.toNat < n ∧ pArr G t z x.toNat (E x) H := by
  rcases pLoc hr he hv hK (by omega) with ⟨h1, h2, h3, h4⟩ | ⟨h, -⟩
  · exact ⟨h2, h3, pArr_of h4⟩
  · omega
/-- an element is written -/
theorem pRep.setE {G : pG} {n : Nat} {K : Int → Nat × Nat} {F E : Int → Int → Int} {H H1 : Heap} {x i y : Int} {t z : Nat} {g : Nat → Value} {v : Value} (hr : pRep G (n, K, F, E) H) (hx : 0 ≤ x) (hl : x.toNat < n) (hK : K x = (20 + t, z)) (ht : t < 6) (hz : z < 2147483648) (hg : ∀ j : Nat, j < z → pAbs G.1 (g j) = (pTag (pTy t), E x j)) (hi : 0 ≤ i) (hv : pAbs G.1 v = (pTag (pTy t), y))
    (e : H1[G.1 + x.toNat]? = some (arrV (G.2.2.2.1 t) z (updV g i.toNat v))) (hs : H1.size = H.size) (ho : ∀ q, q ≠ G.1 + x.toNat → H1[q]? = H[q]?) : pRep G (n, K, F, pUp E x i y) H1 := by
  obtain ⟨h1, h2, h3, h4⟩ := hr
  refine ⟨hs.trans h1, fun a ha => ?_, h3, h4⟩
  have eN := pToN hx
  dsimp only at ha ⊢
  by_cases hq : a = x.toNat
  · subst hq
    rw [eN, hK]
    refine Or.inr ⟨by omega, by omega, ?_⟩
    dsimp only
    rw [Nat.add_sub_cancel_left]
    refine ⟨hz, _, e, fun j hj => ?_⟩
    simp only [updV, pUp]
    by_cases hj2 : j = i.toNat
    · subst hj2
      rw [if_pos rfl, if_pos (by simp [pToN hi])]
      exact hv
    · rw [if_neg hj2, if_neg (fun q => hj2 (by omega))]
      exact hg j hj
  · have hne : (a : Int) ≠ x := by omega
    have := (h2 a ha).kept (H1 := H1) (ho _ (by omega))
    dsimp only at this
    have eE : pUp E x i y a = E a := by
      funext j
      simp only [pUp]
      rw [if_neg (fun q => hne q.1)]
    rw [eE]
    exact this
theorem pExt.setE {G : pG} {s : State} {n : Nat} {K : Int → Nat × Nat} {F E : Int → Int → Int} {H0 : Heap} {x i y : Int} (he : pExt G s (n, K, F, E) H0) (hx : 0 ≤ x) : pExt G s (n, K, F, pUp E x i y) H0 := by
  intro a ha
  rcases he a ha with q | ⟨m, q, cell, g1, g2, g3, g4, g5, g6⟩
  · exact Or.inl q
  · refine Or.inr ⟨m, q, cell, g1, g2, g3, g4, g5, fun j hj => ?_⟩
    obtain ⟨w, e1, e2⟩ := g6 j hj
    refine ⟨w, e1, ?_⟩
    have : pRef G.1 a < 0 := by unfold pRef; rw [if_neg (by omega)]; omega
    simp only [pUp]
    rw [if_neg (fun q => by omega)]
    exact e2
theorem pExt.any {G : pG} {s : State} {n n' : Nat} {K : Int → Nat × Nat} {F F' E : Int → Int → Int} {H0 : Heap} (he : pExt G s (n, K, F, E) H0) : pExt G s (n', K, F', E) H0 := he
/-- a field is written -/
theorem pRep.setF {G : pG} {n : Nat} {K : Int → Nat × Nat} {F E : Int → Int → Int} {H H1 : Heap} {x y : Int} {ci z j : Nat} {fs : Nat → Value} {v : Value} (hr : pRep G (n, K, F, E) H) (hx : 0 ≤ x) (hl : x.toNat < n) (hK : K x = (ci, z)) (hc : ci < 13) (hg : ∀ i : Nat, i < cN ci → pAbs G.1 (fs i) = (pTag (cY ci i), F x i)) (hv : pAbs G.1 v = (pTag (cY ci j), y))
    (e : t_OB (G.1 + x.toNat) (G.2.1 ci) (cN ci) (G.2.2.1 ci) H1 (updV fs j v)) (hs : H1.size = H.size) (ho : ∀ q, q ≠ G.1 + x.toNat → H1[q]? = H[q]?) : pRep G (n, K, pUp F x j y, E) H1 := by
  obtain ⟨h1, h2, h3, h4⟩ := hr
  refine ⟨hs.trans h1, fun a ha => ?_, h3, h4⟩
  have eN := pToN hx
  dsimp only at ha ⊢
  by_cases hq : a = x.toNat
  · subst hq
    rw [eN, hK]
    refine Or.inl ⟨hc, _, e, fun i hi => ?_⟩
    simp only [updV, pUp]
    by_cases hj2 : i = j
    · subst hj2
      rw [if_pos rfl, if_pos (by simp)]
      exact hv
    · rw [if_neg hj2, if_neg (fun q => hj2 (by omega))]
      exact hg i hi
  · have hne : (a : Int) ≠ x := by omega
    have := (h2 a ha).kept (H1 := H1) (ho _ (by omega))
    dsimp only at this
    have eE : pUp F x j y a = F a := by
      funext i
      simp only [pUp]
      rw [if_neg (fun q => hne q.1)]
    rw [eE]
    exact this
section PH
variable {l : Launch} {G : pG} {d : Nat} {M : pMeth} {bg : Nat × Nat} {pc q : Nat} {lv : List (Nat × pV)} {st : List pV} {Q : Option pV → pM → Prop} {n : Nat} {K : Int → Nat × Nat} {F E : Int → Int → Int}
theorem s_getf {index z t : Nat} {x : Int} (k ci j : Nat) (hf : M.2.2.2.2[k]? = some (pc, .getfield index, 3)) (hw : pFL M.1.cls index ci j) (hK : K x = (ci, z)) (h : PW l G d M bg q lv ((t, F x j) :: st) (n, K, F, E) Q) (hq : pc + 3 = q := by rfl) (ht : pTag (cY ci j) = t := by rfl) : PW l G d M bg pc lv ((2, x) :: st) (n, K, F, E) Q := by
  subst hq
  intro ok p e R s m args below meth c C Qc mc ms free H locs cells slots ls lvJ stJ ⟨h1, h2, h3, h4, h5, h6, h7, h8, h9, h10, h11, h12⟩
  obtain ⟨v0, r0, rfl, a0, hs⟩ := pst_cons h10
  obtain ⟨hc, hj, hm⟩ := hw
  obtain ⟨-, rfl, -, fs, ⟨cell, q1, q2, q3, q4⟩, g⟩ := pLocO h5 h6 a0 hK hc
  obtain ⟨cx, cb, cm, co, ct, -, -, -, cK, -⟩ := id C
  obtain ⟨kS, kfc, kC, hkC, hkind⟩ := cK.1 ci hc
  obtain ⟨cf, kf, fi, f, hi, hsl⟩ := kS j hj
  refine W.getf cx cb co (ct _ hm) (by rw [← cl_dec ci hc j hj]; exact hi) (u_facts kfc hkC (u_lays ct (cl_in ci hc) hj) hi).1 q1 (by rw [q3]; exact fun h => by cases h) (v := fs j) (by rw [hsl]; exact q4 j hj) rfl rfl (pDec ok hf) ?_
  exact h ok p e R s m args below meth c C Qc mc ms free H locs cells slots ls lvJ _ ⟨h1, h2, h3, h4, h5, h6, h7, h8, h9, by simp only [List.map_cons, g j hj, ht, hs], h11, h12⟩
theorem pFit {b : Nat} {v : Value} {ty : FieldType} {y : Int} (hv : pAbs b v = (pTag ty, y)) (ht : ty = .int ∨ ty = .long ∨ (ty = .boolean ∧ (y = 0 ∨ y = 1)) ∨ (∃ c, ty = .object c) ∨ ∃ c, ty = .array c) : narrow ty v = v ∧ fits ty v = true := by
  rcases ht with rfl | rfl | ⟨rfl, h⟩ | ⟨c, rfl⟩ | ⟨c, rfl⟩
  · obtain ⟨i, rfl, -⟩ := pAbs_int hv
    exact ⟨rfl, rfl⟩
  · obtain ⟨i, rfl, -⟩ := pAbs_long hv
    exact ⟨rfl, rfl⟩
  · obtain ⟨i, rfl, hi⟩ := pAbs_int hv
    rcases h with rfl | rfl
    · have : i = 0 := Int32.toInt_inj.mp (by rw [hi]; rfl)
      subst this
      exact ⟨rfl, rfl⟩
    · have : i = 1 := Int32.toInt_inj.mp (by rw [hi]; rfl)
      subst this
      exact ⟨rfl, rfl⟩
  · rcases pAbs_isref hv with rfl | ⟨a, rfl⟩ <;> exact ⟨rfl, rfl⟩
  · rcases pAbs_isref hv with rfl | ⟨a, rfl⟩ <;> exact ⟨rfl, rfl⟩
theorem s_putf {index z t : Nat} {x y : Int} (k ci j : Nat) (hf : M.2.2.2.2[k]? = some (pc, .putfield index, 3)) (hw : pFL M.1.cls index ci j) (hK : K x = (ci, z)) (hfin : (cT ci j).2.2.2 = false ∨ (M.1.name = "<init>" ∧ cR ci = M.1.cls)) (hty : cY ci j = .int ∨ cY ci j = .long ∨ (cY ci j = .boolean ∧ (y = 0 ∨ y = 1)) ∨ (∃ c, cY ci j = .object c) ∨ ∃ c, cY ci j = .array c) (h : PW l G d M bg q lv st (n, K, pUp F x j y, E) Q) (hq : pc + 3 = q := by rfl) (ht : pTag (cY ci j) = t := by rfl) : PW l G d M bg pc lv ((t, y) :: (2, x) :: st) (n, K, F, E) Q := by
  subst hq
  intro ok p e R s m args below meth c C Qc mc ms free H locs cells slots ls lvJ stJ ⟨h1, h2, h3, h4, h5, h6, h7, h8, h9, h10, h11, h12⟩
  obtain ⟨v1, r1, rfl, a1, hs1⟩ := pst_cons h10
  obtain ⟨v0, r0, rfl, a0, hs⟩ := pst_cons hs1
  obtain ⟨hc, hj, hm⟩ := hw
  obtain ⟨hx0, rfl, hxn, fs, ⟨cell, q1, q2, q3, q4⟩, g⟩ := pLocO h5 h6 a0 hK hc
  obtain ⟨cx, cb, cm, co, ct, -, -, cn, cK, -⟩ := id C
  obtain ⟨kS, kfc, kC, hkC, hkind⟩ := cK.1 ci hc
  obtain ⟨cf, kf, fi, f, hi, hsl⟩ := kS j hj
  subst ht
  obtain ⟨hn1, hfit⟩ := pFit a1 hty
  have hap : ∀ x y, x < cN ci → y < cN ci → x ≠ y → G.2.2.1 ci x ≠ G.2.2.1 ci y := by
    intro x y hx hy hne
    obtain ⟨_, _, _, fa, hia, ea⟩ := kS x hx
    obtain ⟨_, _, _, fb, hib, eb⟩ := kS y hy
    rw [← ea, ← eb]
    refine u_apart (u_lays ct (cl_in ci hc) hx) (u_lays ct (cl_in ci hc) hy) hia hib ?_
    rw [(State.fieldFound?_type hia (cl_ty ci hc x hx)).1, (State.fieldFound?_type hib (cl_ty ci hc y hy)).1]
    exact cl_nm ci hc x hx y hy hne
  have hst := (u_facts kfc hkC (u_lays ct (cl_in ci hc) hj) hi).1
  have hlay := ct _ (cl_in ci hc _ (u_in_lay hj))
  have hdc := cl_dec ci hc j hj
  have done : ∀ H' : Heap, H'[G.1 + x.toNat]? = some (cell.setSlot (G.2.2.1 ci j) v1) → H'.size = H.size → (∀ q, q ≠ G.1 + x.toNat → H'[q]? = H[q]?) → W p l e R s m args below meth c H' (locs ++ [⟨G.1 + x.toNat, G.2.2.1 ci j⟩]) cells slots (MQ below Qc args s mc ms free) (F0 m (pc + 3) ls r0) := by
    intro H' e1 e2 e3
    refine h ok p e R s m args below meth c C Qc mc ms free H' _ cells slots ls lvJ _ ⟨h1, h2, h3, h4, ?_, h6.any, h7.put e2 e3 (Nat.le_add_right _ _), h8, h9, hs, h11, h12⟩
    exact h5.setF hx0 hxn hK hc g a1 ⟨_, e1, q2, q3, t_set q4 hap hj v1⟩ e2 e3
  unfold u_lay at hlay
  by_cases hff : (cT ci j).2.2.2 = true
  · rw [if_pos hff] at hlay
    rcases hfin with hfin | ⟨hfin, hown⟩
    · rw [hfin] at hff; cases hff
    have hcf : m.cls = cf := by
      obtain ⟨_, _, c', _, _, _, -, -, hf', -, -, -, hown2, -⟩ := Cond.laysFinal_spec hlay
      have e1 : c' = cf := by have := hi.symm.trans hf'; simp at this; exact this.1.symm
      rw [hdc, hown] at hown2
      rw [← e1]; exact Option.some.inj (co.symm.trans hown2)
    have h6' := u_fits kfc hkC hkind (Or.inr hlay) hi (cl_ty ci hc j hj) hn1 hfit
    refine W.putFinK cx cb co (ct _ hm) (by rw [← hdc]; exact hi) hst hcf (cn.trans hfin) (by rw [q2]; exact h6') q1 q3 (by rw [hsl]; exact k2_hasslot (q4 j hj)) rfl rfl (pDec ok hf) fun H' e1 e2 e3 => ?_
    rw [hsl] at e1 ⊢
    exact done H' e1 e2 e3
  · rw [if_neg hff] at hlay
    have h6' := u_store kfc hkC hkind hlay hi (cl_ty ci hc j hj) hn1 hfit
    refine W.putK cx cb (f := f) ⟨co, ct _ hm, ⟨_, _, _, by rw [← hdc]; exact hi⟩, hst⟩ (by rw [q2]; exact h6') q1 q3 (by rw [hsl]; exact k2_hasslot (q4 j hj)) rfl rfl (pDec ok hf) fun H' e1 e2 e3 => ?_
    rw [hsl] at e1 ⊢
    exact done H' e1 e2 e3
theorem pIx {i : Int32} {x : Int} {z : Nat} (e : i.toInt = x) (h0 : 0 ≤ x) (h1 : x < z) : ¬ (i < 0 ∨ z ≤ i.toNatClampNeg) := by
  rw [Int32.lt_iff_toInt_lt, i32_clamp, e]
  intro h
  rcases h with h | h
  · have : x < 0 := h
    omega
  · omega
theorem s_iald {z : Nat} {x i : Int} (k : Nat) (hf : M.2.2.2.2[k]? = some (pc, .iaload, 1)) (hK : K x = (20, z)) (hi : 0 ≤ i ∧ i < z) (h : PW l G d M bg q lv ((0, E x i) :: st) (n, K, F, E) Q) (hq : pc + 1 = q := by rfl) : PW l G d M bg pc lv ((0, i) :: (2, x) :: st) (n, K, F, E) Q := by
  subst hq
  intro ok p e R s m args below meth c C Qc mc ms free H locs cells slots ls lvJ stJ ⟨h1, h2, h3, h4, h5, h6, h7, h8, h9, h10, h11, h12⟩
  obtain ⟨v1, r1, rfl, a1, hs1⟩ := pst_cons h10
  obtain ⟨v0, r0, rfl, a0, hs⟩ := pst_cons hs1
  obtain ⟨ji, rfl, ei⟩ := pAbs_int a1
  obtain ⟨cx, cb, cm, co, ct, -, -, -, cK, -⟩ := id C
  have eN : ((i.toNat : Nat) : Int) = i := pToN hi.1
  rcases pLoc h5 h6 a0 hK (by omega) with ⟨hx, rfl, hl, hc⟩ | ⟨hx, -, a, rfl, hlt, cell, g1, g2, g3, g4, -, g5⟩
  · obtain ⟨hz, g, g1, g2⟩ := pArr_of (t := 0) hc
    have hv := g2 i.toNat (by omega)
    rw [eN] at hv
    refine W.iald (v := g i.toNat) cx cb g1 ((cK.2 0 (by omega)).1 z g) (fun q => by cases q) (by rw [arrV_size]; exact pIx ei hi.1 hi.2) (by rw [i32_clamp, ei]; exact arrV_read _ _ (by omega)) rfl rfl (pDec ok hf) ?_
    exact h ok p e R s m args below meth c C Qc mc ms free H locs cells slots ls lvJ _ ⟨h1, h2, h3, h4, h5, h6, h7, h8, h9, by simp only [List.map_cons, hv, hs]; rfl, h11, h12⟩
  · obtain ⟨w, e1, e2⟩ := g5 i.toNat (by omega)
    rw [eN] at e2
    have hH : H[a]? = some cell := by
      rw [h7.2.1 a (Array.getElem?_eq_some_iff.mp g1).1 (Nat.not_le.mpr hlt)]; exact g1
    refine W.iald (v := .int w) cx cb hH g2 g3 (by rw [g4]; exact pIx ei hi.1 hi.2) (by rw [i32_clamp, ei]; exact e1) rfl rfl (pDec ok hf) ?_
    exact h ok p e R s m args below meth c C Qc mc ms free H locs cells slots ls lvJ _ ⟨h1, h2, h3, h4, h5, h6, h7, h8, h9, by simp only [List.map_cons, pAbs, e2, hs], h11, h12⟩
theorem s_alen {z t : Nat} {x : Int} (k : Nat) (hf : M.2.2.2.2[k]? = some (pc, .arraylength, 1)) (hK : K x = (20 + t, z)) (h : PW l G d M bg q lv ((0, z) :: st) (n, K, F, E) Q) (hq : pc + 1 = q := by rfl) (ht : t < 6 := by decide) : PW l G d M bg pc lv ((2, x) :: st) (n, K, F, E) Q := by
  subst hq
  intro ok p e R s m args below meth c C Qc mc ms free H locs cells slots ls lvJ stJ ⟨h1, h2, h3, h4, h5, h6, h7, h8, h9, h10, h11, h12⟩
  obtain ⟨v0, r0, rfl, a0, hs⟩ := pst_cons h10
  obtain ⟨cx, cb, cm, co, ct, -, -, -, cK, -⟩ := id C
  have hz : ∀ z : Nat, z < 2147483648 → (Int32.ofNat z).toInt = (z : Int) := fun z hz => by
    show (Int32.ofInt (z : Int)).toInt = z
    exact i32_of _ (by omega) (by omega)
  rcases pLoc h5 h6 a0 hK (by omega) with ⟨hx, rfl, hl, hc⟩ | ⟨hx, -, a, rfl, hlt, cell, g1, g2, g3, g4, hz4, g5⟩
  · obtain ⟨hz4, g, g1, g2⟩ := pArr_of hc
    refine W.alen (n := Int32.ofNat z) cx cb g1 ((cK.2 t ht).1 z g) (by rw [arrV_size] <;> rfl) rfl rfl (pDec ok hf) ?_
    exact h ok p e R s m args below meth c C Qc mc ms free H locs cells slots ls lvJ _ ⟨h1, h2, h3, h4, h5, h6, h7, h8, h9, by simp only [List.map_cons, pAbs, hz z hz4, hs], h11, h12⟩
  · have hH : H[a]? = some cell := by
      rw [h7.2.1 a (Array.getElem?_eq_some_iff.mp g1).1 (Nat.not_le.mpr hlt)]; exact g1
    refine W.alen (n := Int32.ofNat z) cx cb hH g2 (by rw [g4] <;> rfl) rfl rfl (pDec ok hf) ?_
    exact h ok p e R s m args below meth c C Qc mc ms free H locs cells slots ls lvJ _ ⟨h1, h2, h3, h4, h5, h6, h7, h8, h9, by simp only [List.map_cons, pAbs, hz z hz4, hs], h11, h12⟩
theorem s_lald {z : Nat} {x i : Int} (k : Nat) (hf : M.2.2.2.2[k]? = some (pc, .laload, 1)) (hK : K x = (21, z)) (hx : 0 ≤ x) (hi : 0 ≤ i ∧ i < z) (h : PW l G d M bg q lv ((1, E x i) :: st) (n, K, F, E) Q) (hq : pc + 1 = q := by rfl) : PW l G d M bg pc lv ((0, i) :: (2, x) :: st) (n, K, F, E) Q := by
  subst hq
  intro ok p e R s m args below meth c C Qc mc ms free H locs cells slots ls lvJ stJ ⟨h1, h2, h3, h4, h5, h6, h7, h8, h9, h10, h11, h12⟩
  obtain ⟨v1, r1, rfl, a1, hs1⟩ := pst_cons h10
  obtain ⟨v0, r0, rfl, a0, hs⟩ := pst_cons hs1
  obtain ⟨ji, rfl, ei⟩ := pAbs_int a1
  obtain ⟨cx, cb, cm, co, ct, -, -, -, cK, -⟩ := id C
  have eN : ((i.toNat : Nat) : Int) = i := pToN hi.1
  obtain ⟨rfl, hl, hz, g, g1, g2⟩ := pLocA (t := 1) h5 h6 a0 hK (by omega) hx
  have hv := g2 i.toNat (by omega)
  rw [eN] at hv
  refine W.lald (v := g i.toNat) cx cb g1 ((cK.2 1 (by omega)).1 z g) (fun q => by cases q) (by rw [arrV_size]; exact pIx ei hi.1 hi.2) (by rw [i32_clamp, ei]; exact arrV_read _ _ (by omega)) rfl rfl (pDec ok hf) ?_
  exact h ok p e R s m args below meth c C Qc mc ms free H locs cells slots ls lvJ _ ⟨h1, h2, h3, h4, h5, h6, h7, h8, h9, by simp only [List.map_cons, hv, hs]; rfl, h11, h12⟩
theorem s_bald {z t : Nat} {x i : Int} (k : Nat) (hf : M.2.2.2.2[k]? = some (pc, .baload, 1)) (hK : K x = (20 + t, z)) (ht : t = 2 ∨ t = 3) (hx : 0 ≤ x) (hi : 0 ≤ i ∧ i < z) (h : PW l G d M bg q lv ((0, E x i) :: st) (n, K, F, E) Q) (hq : pc + 1 = q := by rfl) : PW l G d M bg pc lv ((0, i) :: (2, x) :: st) (n, K, F, E) Q := by
  subst hq
  intro ok p e R s m args below meth c C Qc mc ms free H locs cells slots ls lvJ stJ ⟨h1, h2, h3, h4, h5, h6, h7, h8, h9, h10, h11, h12⟩
  obtain ⟨v1, r1, rfl, a1, hs1⟩ := pst_cons h10
  obtain ⟨v0, r0, rfl, a0, hs⟩ := pst_cons hs1
  obtain ⟨ji, rfl, ei⟩ := pAbs_int a1
  obtain ⟨cx, cb, cm, co, ct, -, -, -, cK, -⟩ := id C
  have eN : ((i.toNat : Nat) : Int) = i := pToN hi.1
  obtain ⟨rfl, hl, hz, g, g1, g2⟩ := pLocA h5 h6 a0 hK (by omega) hx
  have hv := g2 i.toNat (by omega)
  rw [eN] at hv
  rcases ht with rfl | rfl
  · refine W.bald (v := g i.toNat) cx cb g1 ((cK.2 2 (by omega)).1 z g) (fun q => by cases q) (by rw [arrV_size]; exact pIx ei hi.1 hi.2) (by rw [i32_clamp, ei]; exact arrV_read _ _ (by omega)) rfl rfl (pDec ok hf) ?_
    exact h ok p e R s m args below meth c C Qc mc ms free H locs cells slots ls lvJ _ ⟨h1, h2, h3, h4, h5, h6, h7, h8, h9, by simp only [List.map_cons, hv, hs]; rfl, h11, h12⟩
  · refine W.zald (v := g i.toNat) cx cb g1 ((cK.2 3 (by omega)).1 z g) (fun q => by cases q) (by rw [arrV_size]; exact pIx ei hi.1 hi.2) (by rw [i32_clamp, ei]; exact arrV_read _ _ (by omega)) rfl rfl (pDec ok hf) ?_
    exact h ok p e R s m args below meth c C Qc mc ms free H locs cells slots ls lvJ _ ⟨h1, h2, h3, h4, h5, h6, h7, h8, h9, by simp only [List.map_cons, hv, hs]; rfl, h11, h12⟩
theorem s_aald {z t : Nat} {x i : Int} (k : Nat) (hf : M.2.2.2.2[k]? = some (pc, .aaload, 1)) (hK : K x = (20 + t, z)) (ht : t = 4 ∨ t = 5) (hx : 0 ≤ x) (hi : 0 ≤ i ∧ i < z) (h : PW l G d M bg q lv ((2, E x i) :: st) (n, K, F, E) Q) (hq : pc + 1 = q := by rfl) : PW l G d M bg pc lv ((0, i) :: (2, x) :: st) (n, K, F, E) Q := by
  subst hq
  intro ok p e R s m args below meth c C Qc mc ms free H locs cells slots ls lvJ stJ ⟨h1, h2, h3, h4, h5, h6, h7, h8, h9, h10, h11, h12⟩
  obtain ⟨v1, r1, rfl, a1, hs1⟩ := pst_cons h10
  obtain ⟨v0, r0, rfl, a0, hs⟩ := pst_cons hs1
  obtain ⟨ji, rfl, ei⟩ := pAbs_int a1
  obtain ⟨cx, cb, cm, co, ct, -, -, -, cK, -⟩ := id C
  have eN : ((i.toNat : Nat) : Int) = i := pToN hi.1
  obtain ⟨rfl, hl, hz, g, g1, g2⟩ := pLocA h5 h6 a0 hK (by omega) hx
  have hv := g2 i.toNat (by omega)
  rw [eN] at hv
  have hr : (pTy t).isReference = true ∧ pTag (pTy t) = 2 := by rcases ht with rfl | rfl <;> exact ⟨rfl, rfl⟩
  refine W.aald (v := g i.toNat) (ty := pTy t) cx cb g1 ((cK.2 t (by omega)).1 z g) hr.1 (fun q => by cases q) (by rw [arrV_size]; exact pIx ei hi.1 hi.2) (by rw [i32_clamp, ei]; exact arrV_read _ _ (by omega)) rfl rfl (pDec ok hf) ?_
  exact h ok p e R s m args below meth c C Qc mc ms free H locs cells slots ls lvJ _ ⟨h1, h2, h3, h4, h5, h6, h7, h8, h9, by simp only [List.map_cons, hv, hr.2, hs], h11, h12⟩
theorem s_iast {z : Nat} {x i y : Int} (k : Nat) (hf : M.2.2.2.2[k]? = some (pc, .iastore, 1)) (hK : K x = (20, z)) (hx : 0 ≤ x) (hi : 0 ≤ i ∧ i < z) (h : PW l G d M bg q lv st (n, K, F, pUp E x i y) Q) (hq : pc + 1 = q := by rfl) : PW l G d M bg pc lv ((0, y) :: (0, i) :: (2, x) :: st) (n, K, F, E) Q := by
  subst hq
  intro ok p e R s m args below meth c C Qc mc ms free H locs cells slots ls lvJ stJ ⟨h1, h2, h3, h4, h5, h6, h7, h8, h9, h10, h11, h12⟩
  obtain ⟨v2, r2, rfl, a2, hs2⟩ := pst_cons h10
  obtain ⟨v1, r1, rfl, a1, hs1⟩ := pst_cons hs2
  obtain ⟨v0, r0, rfl, a0, hs⟩ := pst_cons hs1
  obtain ⟨ji, rfl, ei⟩ := pAbs_int a1
  obtain ⟨jy, rfl, ey⟩ := pAbs_int a2
  obtain ⟨cx, cb, cm, co, ct, -, -, -, cK, -⟩ := id C
  obtain ⟨rfl, hl, hz, g, g1, g2⟩ := pLocA (t := 0) h5 h6 a0 hK (by omega) hx
  refine W.iast cx cb g1 ((cK.2 0 (by omega)).1 z g) (fun q => by cases q) (by rw [arrV_size]; exact pIx ei hi.1 hi.2) rfl rfl (pDec ok hf) fun H' e1 e2 e3 => ?_
  rw [i32_clamp, ei, arrV_store] at e1
  exact h ok p e R s m args below meth c C Qc mc ms free H' _ cells slots ls lvJ _ ⟨h1, h2, h3, h4, h5.setE (t := 0) hx hl hK (by omega) hz g2 hi.1 a2 e1 e2 e3, h6.setE hx, h7.put e2 e3 (Nat.le_add_right _ _), h8, h9, hs, h11, h12⟩
theorem s_last {z : Nat} {x i y : Int} (k : Nat) (hf : M.2.2.2.2[k]? = some (pc, .lastore, 1)) (hK : K x = (21, z)) (hx : 0 ≤ x) (hi : 0 ≤ i ∧ i < z) (h : PW l G d M bg q lv st (n, K, F, pUp E x i y) Q) (hq : pc + 1 = q := by rfl) : PW l G d M bg pc lv ((1, y) :: (0, i) :: (2, x) :: st) (n, K, F, E) Q := by
  subst hq
  intro ok p e R s m args below meth c C Qc mc ms free H locs cells slots ls lvJ stJ ⟨h1, h2, h3, h4, h5, h6, h7, h8, h9, h10, h11, h12⟩
  obtain ⟨v2, r2, rfl, a2, hs2⟩ := pst_cons h10
  obtain ⟨v1, r1, rfl, a1, hs1⟩ := pst_cons hs2
  obtain ⟨v0, r0, rfl, a0, hs⟩ := pst_cons hs1
  obtain ⟨ji, rfl, ei⟩ := pAbs_int a1
  obtain ⟨jy, rfl, ey⟩ := pAbs_long a2
  obtain ⟨cx, cb, cm, co, ct, -, -, -, cK, -⟩ := id C
  obtain ⟨rfl, hl, hz, g, g1, g2⟩ := pLocA (t := 1) h5 h6 a0 hK (by omega) hx
  refine W.last cx cb g1 ((cK.2 1 (by omega)).1 z g) (fun q => by cases q) (by rw [arrV_size]; exact pIx ei hi.1 hi.2) rfl rfl (pDec ok hf) fun H' e1 e2 e3 => ?_
  rw [i32_clamp, ei, arrV_store] at e1
  exact h ok p e R s m args below meth c C Qc mc ms free H' _ cells slots ls lvJ _ ⟨h1, h2, h3, h4, h5.setE (t := 1) hx hl hK (by omega) hz g2 hi.1 a2 e1 e2 e3, h6.setE hx, h7.put e2 e3 (Nat.le_add_right _ _), h8, h9, hs, h11, h12⟩
theorem s_bast {z : Nat} {x i y : Int} (k : Nat) (hf : M.2.2.2.2[k]? = some (pc, .bastore, 1)) (hK : K x = (22, z)) (hx : 0 ≤ x) (hi : 0 ≤ i ∧ i < z) (h : PW l G d M bg q lv st (n, K, F, pUp E x i (w8 y)) Q) (hq : pc + 1 = q := by rfl) : PW l G d M bg pc lv ((0, y) :: (0, i) :: (2, x) :: st) (n, K, F, E) Q := by
  subst hq
  intro ok p e R s m args below meth c C Qc mc ms free H locs cells slots ls lvJ stJ ⟨h1, h2, h3, h4, h5, h6, h7, h8, h9, h10, h11, h12⟩
  obtain ⟨v2, r2, rfl, a2, hs2⟩ := pst_cons h10
  obtain ⟨v1, r1, rfl, a1, hs1⟩ := pst_cons hs2
  obtain ⟨v0, r0, rfl, a0, hs⟩ := pst_cons hs1
  obtain ⟨ji, rfl, ei⟩ := pAbs_int a1
  obtain ⟨jy, rfl, ey⟩ := pAbs_int a2
  obtain ⟨cx, cb, cm, co, ct, -, -, -, cK, -⟩ := id C
  obtain ⟨rfl, hl, hz, g, g1, g2⟩ := pLocA (t := 2) h5 h6 a0 hK (by omega) hx
  refine W.bast cx cb g1 ((cK.2 2 (by omega)).1 z g) (fun q => by cases q) (by rw [arrV_size]; exact pIx ei hi.1 hi.2) rfl rfl (pDec ok hf) fun H' e1 e2 e3 => ?_
  rw [i32_clamp, ei, arrV_store] at e1
  exact h ok p e R s m args below meth c C Qc mc ms free H' _ cells slots ls lvJ _ ⟨h1, h2, h3, h4, h5.setE (t := 2) hx hl hK (by omega) hz g2 hi.1 (by simp only [narrow, pAbs, i32_i2b, ey]; rfl) e1 e2 e3, h6.setE hx, h7.put e2 e3 (Nat.le_add_right _ _), h8, h9, hs, h11, h12⟩
theorem s_zast {z : Nat} {x i y : Int} (k : Nat) (hf : M.2.2.2.2[k]? = some (pc, .bastore, 1)) (hK : K x = (23, z)) (hx : 0 ≤ x) (hi : 0 ≤ i ∧ i < z) (hy : y = 0 ∨ y = 1) (h : PW l G d M bg q lv st (n, K, F, pUp E x i y) Q) (hq : pc + 1 = q := by rfl) : PW l G d M bg pc lv ((0, y) :: (0, i) :: (2, x) :: st) (n, K, F, E) Q := by
  subst hq
  intro ok p e R s m args below meth c C Qc mc ms free H locs cells slots ls lvJ stJ ⟨h1, h2, h3, h4, h5, h6, h7, h8, h9, h10, h11, h12⟩
  obtain ⟨v2, r2, rfl, a2, hs2⟩ := pst_cons h10
  obtain ⟨v1, r1, rfl, a1, hs1⟩ := pst_cons hs2
  obtain ⟨v0, r0, rfl, a0, hs⟩ := pst_cons hs1
  obtain ⟨ji, rfl, ei⟩ := pAbs_int a1
  obtain ⟨jy, rfl, ey⟩ := pAbs_int a2
  obtain ⟨cx, cb, cm, co, ct, -, -, -, cK, -⟩ := id C
  obtain ⟨rfl, hl, hz, g, g1, g2⟩ := pLocA (t := 3) h5 h6 a0 hK (by omega) hx
  refine W.zast cx cb g1 ((cK.2 3 (by omega)).1 z g) (fun q => by cases q) (by rw [arrV_size]; exact pIx ei hi.1 hi.2) rfl rfl (pDec ok hf) fun H' e1 e2 e3 => ?_
  rw [i32_clamp, ei, arrV_store] at e1
  have hnar := (pFit (ty := .boolean) a2 (Or.inr (Or.inr (Or.inl ⟨rfl, hy⟩)))).1
  rw [hnar] at e1
  exact h ok p e R s m args below meth c C Qc mc ms free H' _ cells slots ls lvJ _ ⟨h1, h2, h3, h4, h5.setE (t := 3) hx hl hK (by omega) hz g2 hi.1 a2 e1 e2 e3, h6.setE hx, h7.put e2 e3 (Nat.le_add_right _ _), h8, h9, hs, h11, h12⟩
theorem s_iret {x : Int} (k : Nat) (hf : M.2.2.2.2[k]? = some (pc, .ireturn, 1)) (hr : M.2.2.2.1 = some .int) (h : Q (some (0, x)) (n, K, F, E)) : PW l G d M bg pc lv [(0, x)] (n, K, F, E) Q := by
  intro ok p e R s m args below meth c C Qc mc ms free H locs cells slots ls lvJ stJ ⟨h1, h2, h3, h4, h5, h6, h7, h8, h9, h10, h11, h12⟩
  obtain ⟨v0, r0, rfl, a0, hs⟩ := pst_cons h10
  obtain ⟨jx, rfl, ex⟩ := pAbs_int a0
  have hr0 : r0 = [] := List.map_eq_nil_iff.mp hs
  subst hr0
  obtain ⟨cx, cb, cm, co, ct, cr, cl, -⟩ := id C
  refine W.widen (k := mc) (n := ms) (by omega) (by omega) ?_
  exact W.iret cx cb (cr.trans hr) (fun t ht hW => h12 (some (.int jx)) _ t (by rw [Option.map_some, a0]; exact h) (by rw [ht]; exact h5) h6 hW (h7.F ht)) (fun q hq => h11 _ (h7.2.2 q hq)) (pDec ok hf) cl
theorem s_zret {x : Int} (k : Nat) (hf : M.2.2.2.2[k]? = some (pc, .ireturn, 1)) (hr : M.2.2.2.1 = some .boolean) (hx : x = 0 ∨ x = 1) (h : Q (some (0, x)) (n, K, F, E)) : PW l G d M bg pc lv [(0, x)] (n, K, F, E) Q := by
  intro ok p e R s m args below meth c C Qc mc ms free H locs cells slots ls lvJ stJ ⟨h1, h2, h3, h4, h5, h6, h7, h8, h9, h10, h11, h12⟩
  obtain ⟨v0, r0, rfl, a0, hs⟩ := pst_cons h10
  obtain ⟨jx, rfl, ex⟩ := pAbs_int a0
  have hr0 : r0 = [] := List.map_eq_nil_iff.mp hs
  subst hr0
  obtain ⟨cx, cb, cm, co, ct, cr, cl, -⟩ := id C
  refine W.widen (k := mc) (n := ms) (by omega) (by omega) ?_
  exact W.zret cx cb (cr.trans hr) (pFit (ty := .boolean) a0 (Or.inr (Or.inr (Or.inl ⟨rfl, hx⟩)))).1 (fun t ht hW => h12 (some (.int jx)) _ t (by rw [Option.map_some, a0]; exact h) (by rw [ht]; exact h5) h6 hW (h7.F ht)) (fun q hq => h11 _ (h7.2.2 q hq)) (pDec ok hf) cl
theorem s_lret {x : Int} (k : Nat) (hf : M.2.2.2.2[k]? = some (pc, .lreturn, 1)) (hr : M.2.2.2.1 = some .long) (h : Q (some (1, x)) (n, K, F, E)) : PW l G d M bg pc lv [(1, x)] (n, K, F, E) Q := by
  intro ok p e R s m args below meth c C Qc mc ms free H locs cells slots ls lvJ stJ ⟨h1, h2, h3, h4, h5, h6, h7, h8, h9, h10, h11, h12⟩
  obtain ⟨v0, r0, rfl, a0, hs⟩ := pst_cons h10
  obtain ⟨jx, rfl, ex⟩ := pAbs_long a0
  have hr0 : r0 = [] := List.map_eq_nil_iff.mp hs
  subst hr0
  obtain ⟨cx, cb, cm, co, ct, cr, cl, -⟩ := id C
  refine W.widen (k := mc) (n := ms) (by omega) (by omega) ?_
  exact W.lret cx cb (cr.trans hr) (fun t ht hW => h12 (some (.long jx)) _ t (by rw [Option.map_some, a0]; exact h) (by rw [ht]; exact h5) h6 hW (h7.F ht)) (fun q hq => h11 _ (h7.2.2 q hq)) (pDec ok hf) cl
theorem s_aret {x : Int} {rt : FieldType} (k : Nat) (hf : M.2.2.2.2[k]? = some (pc, .areturn, 1)) (hr : M.2.2.2.1 = some rt) (hrt : (∃ n, rt = .object n) ∨ ∃ t, rt = .array t) (h : Q (some (2, x)) (n, K, F, E)) : PW l G d M bg pc lv [(2, x)] (n, K, F, E) Q := by
  intro ok p e R s m args below meth c C Qc mc ms free H locs cells slots ls lvJ stJ ⟨h1, h2, h3, h4, h5, h6, h7, h8, h9, h10, h11, h12⟩
  obtain ⟨v0, r0, rfl, a0, hs⟩ := pst_cons h10
  have hr0 : r0 = [] := List.map_eq_nil_iff.mp hs
  subst hr0
  obtain ⟨cx, cb, cm, co, ct, cr, cl, -⟩ := id C
  refine W.widen (k := mc) (n := ms) (by omega) (by omega) ?_
  exact W.aret cx cb (cr.trans hr) hrt (pAbs_isref a0) (fun t ht hW => h12 (some v0) _ t (by rw [Option.map_some, a0]; exact h) (by rw [ht]; exact h5) h6 hW (h7.F ht)) (fun q hq => h11 _ (h7.2.2 q hq)) (pDec ok hf) cl
theorem s_vret (k : Nat) (hf : M.2.2.2.2[k]? = some (pc, .return_, 1)) (hr : M.2.2.2.1 = none) (h : Q none (n, K, F, E)) : PW l G d M bg pc lv [] (n, K, F, E) Q := by
  intro ok p e R s m args below meth c C Qc mc ms free H locs cells slots ls lvJ stJ ⟨h1, h2, h3, h4, h5, h6, h7, h8, h9, h10, h11, h12⟩
  have hr0 : stJ = [] := List.map_eq_nil_iff.mp h10
  subst hr0
  obtain ⟨cx, cb, cm, co, ct, cr, cl, -⟩ := id C
  refine W.widen (k := mc) (n := ms) (by omega) (by omega) ?_
  exact W.vret cx cb (cr.trans hr) (fun t ht hW => h12 none _ t h (by rw [ht]; exact h5) h6 hW (h7.F ht)) (fun q hq => h11 _ (h7.2.2 q hq)) (pDec ok hf) cl
end PH
