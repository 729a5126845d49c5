/-! the pairs undo, feed -/
theorem ur_pop {f s nu : Int} {kd cl un so : Int → Int} (h : UR f s kd cl nu un so) (h0 : 0 < s) : UR f (s - 1) kd cl (nu - 1) un so := by
  obtain ⟨h1, h2, h3, h4⟩ := h
  exact ⟨h1, by omega, by omega, fun i i0 i1 => h4 i i0 (by omega)⟩
theorem two_undo {LR : tLR} {l : Launch} {G : pG} (hL : LOk LR) : Pair LR l G 1 mX11_undo (0, 0) 1 mX12_undo (0, 0) [] := by
  intro n K F E h
  have hK := h.KS
  have hF := h.FS
  have hC := h.2.1.1.2
  have hu := h.2.2.2.2.1
  have hlt := h.2.2.2.2.2.2.1
  have hst := h.2.2.2.2.2.2.2.1
  have u1 := hu.1
  have u2 := hu.2.1
  have u3 := hu.2.2.1
  refine vX11_undo_0 0 ?_
  simp only [hF.f0_0, hF.f1_0, hF.f0_3, hF.f0_13, hK.k0, hK.k1, hK.k2, hK.k10, hK.k49]
  refine ⟨trivial, trivial, fun z => ⟨trivial, vX3_pop_0 10 2 ?_⟩, fun z F1 e1 => ⟨trivial, by decide, by decide, fun E2 e2 => ?_⟩⟩
  · have t : (F 10 2 + (F 10 3 - 1)).tmod 16 = (F 10 2 + (F 10 3 - 1)) % 16 := Int.tmod_eq_emod_of_nonneg (by omega)
    obtain ⟨w1, w2, w3, w4⟩ := hu.2.2.2 (F 10 3 - 1) (by omega) (by omega)
    simp only [hF.f10_0, hF.f10_1, hF.f2_0, hK.k10, hK.k11, hK.k12, hK.k2, hK.k3, t]
    refine ⟨trivial, by omega, fun F1 e1 => ⟨by omega, by omega, fun a2 q2 => ⟨trivial, by decide, trivial, by decide, trivial, by omega, fun E3 e3 => ⟨trivial, by omega, fun a4 q4 => ?_⟩⟩⟩⟩
    have ev : a4 = E 72 (F 10 3 - 1) := by
      rw [q4, e3, pRow_ne (by decide)]
      exact w1.symm
    refine vX11_undo_32 _ 0 ⟨by rw [hK.k0], fun F4 e4 => ?_⟩
    have fk : FK F F4 := by
      rw [e4, e1]
      exact ((FK.refl hF).up (by decide +kernel) (by decide +kernel) (by decide)).up (by decide +kernel) (by decide +kernel) (by decide)
    have ek : EK E E3 := by
      rw [e3]
      exact EK.refl.row (by decide)
    refine ⟨_, rfl, ek_out ek, hK, vX12_undo_0 66 ?_⟩
    have e8 : F4 66 8 = F 10 3 := by
      rw [e4, e1, pUp_an (by decide), pUp_an (by decide)]
      exact u3
    rw [e8]
    refine ⟨by rw [hK.k66], fun F5 e5 => ⟨fun y => ⟨by omega, fun F6 e6 => ?_⟩, fun y => absurd y z⟩⟩
    have fk6 : FK F F6 := by
      rw [e6, e5]
      exact (fk.up (by decide +kernel) (by decide +kernel) (by decide)).up (by decide +kernel) (by decide +kernel) (by decide)
    have e71 : E3 71 = E 71 := by rw [e3, pRow_ne (by decide)]
    have e72 : E3 72 = E 72 := by rw [e3, pRow_ne (by decide)]
    have e68 : E3 68 = E 68 := by rw [e3, pRow_ne (by decide)]
    refine r_putBack hK fk6.1 (by omega) (by omega) fun g hg => ?_
    rw [e71, e68] at hg
    refine vX12_undo_37 66 ?_
    have g8 : F6 66 8 = F 10 3 - 1 := by rw [e6, pUp_s]
    simp only [fk6.1.f66_7, hK.k66, hK.k72, g8]
    rw [pRow_ne (show (72 : Int) ≠ 68 by decide), e72]
    refine ⟨trivial, trivial, by omega, k_tell hK fk6.1.f66_2 (by omega) (fun _ => ?_) (fun x => absurd x (by omega))⟩
    refine vX12_undo_50 _ ⟨by rw [ev], ek_out (EK.refl.row (by decide)), ?_⟩
    refine (show Inv LR G n K (pUp F6 66 1 0) (pRow E3 68 g) from ?_)
    refine inv_act hL h (fk6.up (by decide +kernel) (by decide +kernel) (by decide)) (ek.row (by decide)) (c := cz fun j => E 71 (117 * (F 10 3 - 1) + j)) ?_ ?_ (cinv_cz w4) ?_ ?_ ?_
    · rw [pRow_at]; exact hg
    · rw [pRow_ne (by decide), e3, pRow_at]
      refine cz_ext fun k k0 k1 => ?_
      unfold pCpy
      rw [if_pos (by omega), q2, w3 k k0 k1]
      congr 1
      omega
    · subst e6 e5 e4 e1
      rw [e3]
      simp only [pUp1, pRow1, rUpA, Int.reduceEq, reduceIte]
      have := ur_pop hu (by omega)
      rw [u3] at this
      exact this
    · subst e6 e5 e4 e1
      rw [e3]
      simp only [pUp1, pRow1, rUpA, Int.reduceEq, reduceIte]
      exact hlt
    · subst e6 e5 e4 e1
      rw [e3]
      simp only [pUp1, pRow1, rUpA, Int.reduceEq, reduceIte]
      exact ⟨trivial, hst.2⟩
  · subst e1 e2
    have ha : ActC F E 0 (-3, cz (E 3)) (pUp F 0 16 (-3)) (pUp E 49 2 (w32 (E 49 2 + 1))) := Or.inl ⟨by dsimp only; decide, rfl, rfl⟩
    refine ⟨_, rfl, ek_out (actc_ek ha), hK, vX12_undo_0 66 ?_⟩
    rw [show pUp F 0 16 (-3) 66 8 = 0 by rw [pUp_an (by decide)]; omega]
    refine ⟨by rw [hK.k66], fun F5 e5 => ⟨fun y => absurd rfl y, fun y => ?_⟩⟩
    subst e5
    have hr := (rres_tell (s := (-3, cz (E 3))) (bg := (0, 0)) (l := l) (Q := fun r μ => PW l G 1 mX12_undo (0, 0) 18 [] (r.toList ++ []) μ (PostR LR G (-3) (n, K, pUp F 0 16 (-3), pUp E 49 2 (w32 (E 49 2 + 1))))) hL h ha (by dsimp only; decide) (fun q => absurd q (by dsimp only; decide)) (by decide) fun F2 E2 hi ho => vX12_undo_18 _ ⟨rfl, ek_out ho, hi⟩)
    exact hr.1 (by dsimp only; decide) _ rfl
/-! bytes -/
theorem bAnd_255 {x : Int} : bAnd x 255 = x % 256 := by
  unfold bAnd
  have e : (Int32.ofInt x &&& Int32.ofInt 255).toBitVec.toNat = (x % 4294967296).toNat % 256 := by
    rw [Int32.toBitVec_and, BitVec.toNat_and]
    show (BitVec.ofInt 32 x).toNat &&& 255 = _
    rw [BitVec.toNat_ofInt, show (255 : Nat) = 2 ^ 8 - 1 from rfl, Nat.and_two_pow_sub_one_eq_mod]
    rfl
  show (Int32.ofInt x &&& Int32.ofInt 255).toBitVec.toInt = _
  rw [BitVec.toInt_eq_toNat_cond, e]
  split <;> omega
theorem w8_byte {x : Int} : bAnd (w8 (w8 x)) 255 = bAnd x 255 := by
  rw [bAnd_255, bAnd_255]
  unfold w8
  omega
theorem tp_one {len tl x y : Int} {b t : Int → Int} (h : TpR len b tl t) (h1 : len < 400) (hy : y = bAnd x 255) : TpR (len + 1) (rUp b len x) (tl + 1) (rUp t tl y) := by
  obtain ⟨e, h2, h3⟩ := h
  subst e
  refine ⟨rfl, by omega, fun i i0 i1 => ?_⟩
  by_cases q : i = tl
  · rw [q, rUp_s, rUp_s, hy, bAnd_255]
    exact ⟨rfl, by omega, by omega⟩
  · rw [rUp_n q, rUp_n q]
    exact h3 i i0 (by omega)
def put4 (g : Int → Int → Int) (b : Int → Int) (len v : Int) : Int → Int := rUp (rUp (rUp (rUp b len (g v 24)) (len + 1) (g v 16)) (len + 1 + 1) (g v 8)) (len + 1 + 1 + 1) (g v 0)
def gC (v s : Int) : Int := w8 (w8 (bShr v s))
def gR (v s : Int) : Int := bAnd (bShr v s) 255
theorem tp_four {len tl v : Int} {b t : Int → Int} (h : TpR len b tl t) (h1 : len + 4 ≤ 400) : TpR (len + 1 + 1 + 1 + 1) (put4 gC b len v) (tl + 1 + 1 + 1 + 1) (put4 gR t tl v) := by
  unfold put4
  exact tp_one (tp_one (tp_one (tp_one h (by omega) w8_byte.symm) (by omega) w8_byte.symm) (by omega) w8_byte.symm) (by omega) w8_byte.symm
section F
variable {l : Launch} {G : pG} {bg : Nat × Nat} {n : Nat} {K : Int → Nat × Nat} {Q : Option pV → pM → Prop}
theorem c_put1 {F E : Int → Int → Int} {v s : Int} (hK : KS K) (hF : FS F) (l0 : 0 ≤ F 22 1) (l1 : F 22 1 < 400) (s0 : 0 ≤ s) (s1 : s ≤ 24) (h : PW l G 0 mX8_put bg 3 [(0, (2, 22)), (1, (0, v)), (2, (0, s + (-8)))] [] (n, K, pUp F 22 1 (F 22 1 + 1), pRow E 23 (rUp (E 23) (F 22 1) (gC v s))) Q) : PW l G 0 mX8_put bg 3 [(0, (2, 22)), (1, (0, v)), (2, (0, s))] [] (n, K, F, E) Q := by
  refine vX8_put_3 22 v s ⟨fun z => absurd z (by omega), fun _ => ?_⟩
  simp only [hF.f22_0, hK.k22, hK.k23]
  refine ⟨trivial, by decide, trivial, by omega, fun E1 e1 => ⟨by omega, fun F2 e2 => ⟨by omega, ?_⟩⟩⟩
  rw [e1, e2, pUp_row (E := E)]
  exact h
theorem c_put {F E : Int → Int → Int} {v : Int} (hK : KS K) (hF : FS F) (l0 : 0 ≤ F 22 1) (l1 : F 22 1 + 4 ≤ 400) (h : Q none (n, K, pUp F 22 1 (F 22 1 + 1 + 1 + 1 + 1), pRow E 23 (put4 gC (E 23) (F 22 1) v))) : PC l G 0 mX8_put bg [(2, 22), (0, v)] (n, K, F, E) Q := by
  have s : ∀ x, pUp F 22 1 x 22 1 = x := fun x => pUp_s
  have hF' : ∀ x, FS (pUp F 22 1 x) := fun x => hF.up (by decide +kernel)
  refine vX8_put_0 22 v ?_
  refine c_put1 hK hF l0 (by omega) (by decide) (by decide) ?_
  refine c_put1 hK (hF' _) (by rw [s]; omega) (by rw [s]; omega) (by decide) (by decide) ?_
  refine c_put1 hK (by simp only [pUp_pUp]; exact hF' _) (by simp only [pUp_pUp, s]; omega) (by simp only [pUp_pUp, s]; omega) (by decide) (by decide) ?_
  refine c_put1 hK (by simp only [pUp_pUp]; exact hF' _) (by simp only [pUp_pUp, s]; omega) (by simp only [pUp_pUp, s]; omega) (by decide) (by decide) ?_
  refine vX8_put_3 22 v _ ⟨fun _ => ?_, fun z => absurd (by decide) z⟩
  simp only [pUp_pUp, s, pRow_row, pRow_at]
  exact h
theorem r_four1 {F E : Int → Int → Int} {v s : Int} (hK : KS K) (hF : FS F) (l0 : 0 ≤ F 66 13) (l1 : F 66 13 < 400) (s0 : 0 ≤ s) (s1 : s ≤ 24) (h : PW l G 0 mX12_four bg 3 [(0, (2, 66)), (1, (0, v)), (2, (0, s + (-8)))] [] (n, K, pUp F 66 13 (F 66 13 + 1), pRow E 75 (rUp (E 75) (F 66 13) (gR v s))) Q) : PW l G 0 mX12_four bg 3 [(0, (2, 66)), (1, (0, v)), (2, (0, s))] [] (n, K, F, E) Q := by
  refine vX12_four_3 66 v s ⟨fun z => absurd z (by omega), fun _ => ?_⟩
  simp only [hF.f66_12, hK.k66, hK.k75]
  refine ⟨trivial, by decide, trivial, by omega, fun E1 e1 => ⟨by omega, fun F2 e2 => ⟨by omega, ?_⟩⟩⟩
  rw [e1, e2, pUp_row (E := E)]
  exact h
theorem r_four {F E : Int → Int → Int} {v : Int} (hK : KS K) (hF : FS F) (l0 : 0 ≤ F 66 13) (l1 : F 66 13 + 4 ≤ 400) (h : Q none (n, K, pUp F 66 13 (F 66 13 + 1 + 1 + 1 + 1), pRow E 75 (put4 gR (E 75) (F 66 13) v))) : PC l G 0 mX12_four bg [(2, 66), (0, v)] (n, K, F, E) Q := by
  have s : ∀ x, pUp F 66 13 x 66 13 = x := fun x => pUp_s
  have hF' : ∀ x, FS (pUp F 66 13 x) := fun x => hF.up (by decide +kernel)
  refine vX12_four_0 66 v ?_
  refine r_four1 hK hF l0 (by omega) (by decide) (by decide) ?_
  refine r_four1 hK (hF' _) (by rw [s]; omega) (by rw [s]; omega) (by decide) (by decide) ?_
  refine r_four1 hK (by simp only [pUp_pUp]; exact hF' _) (by simp only [pUp_pUp, s]; omega) (by simp only [pUp_pUp, s]; omega) (by decide) (by decide) ?_
  refine r_four1 hK (by simp only [pUp_pUp]; exact hF' _) (by simp only [pUp_pUp, s]; omega) (by simp only [pUp_pUp, s]; omega) (by decide) (by decide) ?_
  refine vX12_four_3 66 v _ ⟨fun _ => ?_, fun z => absurd (by decide) z⟩
  simp only [pUp_pUp, s, pRow_row, pRow_at]
  exact h
end F
