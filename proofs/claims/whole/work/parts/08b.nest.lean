/-! a private method of a nest mate -/
section PVN
variable {l : Launch} {G : pG} {d d' : Nat} {M N : pMeth} {bg b' : Nat × Nat} {pc q : Nat} {lv : List (Nat × pV)} {as st full : List pV} {μ : pM} {Q : Option pV → pM → Prop}
theorem s_callW {index ci z : Nat} {x : Int} {host : String} (k : Nat) (hf : M.2.2.2.2[k]? = some (pc, .invokevirtual index, 3)) (hN : pVirt N as.length ci) (hw : Cond.methodLinkNest M.1.cls index N.1 host ∈ lw_u) (hfull : ((2, x) :: as).reverse ++ st = full) (hK : μ.2.1 x = (ci, z)) (h : PC l G d' N b' ((2, x) :: as) μ (fun r μ' => PW l G d M (bg.1 - b'.1, bg.2 - b'.2) q lv (r.toList ++ st) μ' Q)) (hq : pc + 3 = q) (hd : d' + 1 ≤ d) (hb : b'.1 ≤ bg.1 ∧ b'.2 ≤ bg.2) (hall : ((2, x) :: as).all (fun q => q.1 < 3) = true) (hsz : pCat ((2, x) :: as) ≤ N.2.2.1) (hcat : pCat st ≤ 8) (hall2 : st.all (fun q => q.1 < 3) = true) : PW l G d M bg pc lv full μ Q := by
  subst hq
  obtain ⟨n, K, F, E⟩ := μ
  intro ok p e R s m args below meth c C Qc mc ms free H locs cells slots ls lvJ stJ I
  obtain ⟨h1, h2, h3, h4, h5, h6, h7, h8, h9, h10, h11, h12⟩ := id I
  obtain ⟨As, rest, rfl, hA, hrest⟩ := pSplit h10 hfull
  obtain ⟨v0, r0, rfl, a0, hs⟩ := pst_cons hA
  obtain ⟨okN, hi, hsel, hc, hcR, hp⟩ := hN
  obtain ⟨cx, cb, cm, co, ct, -, -, -, cK, -, -, cf, cl⟩ := id C
  obtain ⟨-, rfl, -, fs, ⟨cell, q1, q2, q3, q4⟩, -⟩ := pLocO h5 h6 a0 hK hc
  have hM := pMet okN h hA hall hsz
  have h40 : N.2.2.1 ≤ 40 := okN.2.2.2.2.1
  have hlen : r0.length = as.length := by rw [← hs, List.length_map]
  have hP := pPreOf C I (.ref (G.1 + x.toNat) :: r0)
  refine pAfter ok C I hrest hb (va_runVN (host := host) (C := N.1.cls) (As := r0) (rest := rest) ⟨cx, cb, cm, co, ct⟩ hM ⟨va_cnB as.length ct (pWs_good okN) rfl rfl rfl (ct _ hw) (ct _ okN.2.2.1) ⟨okN.2.2.2.1.1, okN.2.2.2.1.2, hp⟩ ⟨by show d' + 1 + 1 ≤ _; omega, by show 8 + (N.2.2.1 + 11) + 64 * (d' + 1) ≤ _; omega⟩, ct _ hi, ct _ hsel⟩ ⟨hP.1, ⟨cell, q1, by rw [q3]; rfl, by rw [← hcR, q2]; exact (cK.1 ci hc).2.1⟩, hP.2⟩ rfl hlen h8.1 (by simp) ?_ (pDec ok hf) ⟨by omega, by omega⟩)
  show 2 * 0 + _ ≤ 8
  rw [pCat_eq hrest hall2]
  omega
theorem n_callW {index ci : Nat} {x : Int} {host : String} (k : Nat) (hf : M.2.2.2.2[k]? = some (pc, .invokevirtual index, 3)) (hN : pVirt N as.length ci) (hw : Cond.methodLinkNest M.1.cls index N.1 host ∈ lw_u) (hfull : ((2, x) :: as).reverse ++ st = full) (hK : (μ.2.1 x).1 = ci) (h : PC l G d' N (0, 0) ((2, x) :: as) μ (fun r μ' => PW l G d M bg q lv (r.toList ++ st) μ' Q)) (hq : pc + 3 = q := by rfl) (hd : d' + 1 ≤ d := by decide) (hall : ((2, x) :: as).all (fun q => q.1 < 3) = true := by rfl) (hsz : pCat ((2, x) :: as) ≤ N.2.2.1 := by exact Nat.le_of_ble_eq_true rfl) (hcat : pCat st ≤ 8 := by exact Nat.le_of_ble_eq_true rfl) (hall2 : st.all (fun q => q.1 < 3) = true := by rfl) : PW l G d M bg pc lv full μ Q := s_callW (b' := (0, 0)) k hf hN hw hfull (pK2 hK) h hq hd ⟨Nat.zero_le _, Nat.zero_le _⟩ hall hsz hcat hall2
end PVN
