/-! THE LAW'S ENTRY, AND THE FIRST OF WHAT HOLDS (gen_first.py) -/
def iFa_0 (F : Int → Int → Int) : Int → Int → Int := (pUp (pUp (pUp (pRow (pUp (pUp (pUp (pUp (pUp (pRow (pUp (pUp (pUp (pUp (pUp (pUp (pUp (pUp (pUp (pUp (pUp (pUp (pRow (pRow F 1 (pDef 1)) 2 (pDef 0)) 2 0 3) 1 0 2) 1 1 4) 1 2 5) 1 3 6) 1 4 0) 1 5 7) 1 6 0) 1 7 (-1)) 0 0 1) 0 1 8) 0 2 9) 10 (pDef 3)) 10 0 11) 10 1 12) 10 2 0) 10 3 0) 0 3 10) 13 (pDef 3)) 13 0 14) 13 1 15) 13 2 0)
def iFa_1 (F : Int → Int → Int) : Int → Int → Int := (pUp (pUp (pUp (pUp (pRow (pUp (pUp (pUp (pUp (pUp (pUp (pUp (pRow (pRow (pRow (pUp (pUp (pUp (pRow (pUp (pUp (pRow (pUp (pUp F 13 3 0) 0 4 13) 16 (pDef 0)) 16 0 17) 0 5 16) 18 (pDef 0)) 18 0 19) 0 6 18) 0 7 0) 20 (pDef 5)) 21 (pDef 10)) 22 (pDef 8)) 22 0 23) 22 1 0) 21 0 22) 21 1 24) 21 2 25) 21 3 26) 20 0 21) 27 (pDef 9)) 27 0 28) 27 1 29) 27 2 0) 27 3 0)
def iFa_2 (F : Int → Int → Int) : Int → Int → Int := (pUp (pUp (pUp (pUp (pUp (pUp (pUp (pUp (pUp (pUp (pUp (pUp (pRow (pUp (pUp (pUp (pRow (pRow (pUp (pUp (pUp (pUp (pUp (pUp F 20 1 27) 20 2 0) 20 3 0) 20 4 0) 0 8 20) 0 9 22) 30 (pDef 6)) 31 (pDef 4)) 31 0 32) 30 0 31) 30 1 33) 34 (pDef 0)) 34 0 35) 30 2 34) 30 3 (-1)) 30 4 (-1)) 30 5 0) 30 6 0) 30 7 36) 30 8 37) 30 9 38) 30 10 39) 30 11 40) 30 12 0)
def iFa_3 (F : Int → Int → Int) : Int → Int → Int := (pUp (pUp (pUp (pUp (pUp (pUp (pUp (pUp (pUp (pUp (pRow (pRow (pUp (pUp (pUp (pUp (pUp (pUp (pRow (pUp (pUp (pUp (pUp (pUp F 30 13 0) 30 14 0) 30 15 0) 30 16 0) 0 10 30) 41 (pDef 2)) 41 0 42) 41 1 0) 41 2 43) 41 3 0) 41 4 0) 0 11 41) 44 (pDef 7)) 45 (pDef 4)) 45 0 46) 44 0 45) 44 1 47) 44 2 48) 44 3 0) 44 4 (-1)) 44 5 (-1)) 0 12 44) 0 13 49) 0 14 50)
def iFa_4 (F : Int → Int → Int) : Int → Int → Int := (pUp (pUp (pUp (pUp (pUp (pUp (pUp (pRow (pRow (pUp (pUp (pUp (pUp (pUp (pUp (pUp (pUp (pUp (pRow (pRow (pUp (pUp (pUp (pUp F 0 15 51) 0 16 0) 0 17 (-1)) 0 18 0) 52 (pDef 1)) 53 (pDef 0)) 53 0 54) 52 0 53) 52 1 55) 52 2 56) 52 3 57) 52 4 0) 52 5 58) 52 6 0) 52 7 (-1)) 59 (pDef 1)) 60 (pDef 0)) 60 0 61) 59 0 60) 59 1 62) 59 2 63) 59 3 64) 59 4 0) 59 5 65)
def iFa_5 (F : Int → Int → Int) : Int → Int → Int := (pUp (pUp F 59 6 0) 59 7 (-1))
def iFa (F : Int → Int → Int) : Int → Int → Int := (iFa_5 (iFa_4 (iFa_3 (iFa_2 (iFa_1 (iFa_0 F))))))
def iEa_0 (E : Int → Int → Int) : Int → Int → Int := (pUp (pUp (pUp (pRow (pRow (pRow (pRow (pRow (pRow (pRow (pRow (pRow (pRow (pUp (pUp (pUp (pRow (pUp (pUp (pUp (pUp (pUp (pUp (pRow E 3 (fun _ => 0)) 3 3 4) 3 6 2) 3 4 4) 3 7 2) 3 5 4) 3 8 2) 4 (fun _ => 0)) 4 0 999) 4 1 1) 4 2 0) 5 (fun _ => 0)) 6 (fun _ => 0)) 7 (fun _ => -1)) 8 (fun _ => -1)) 9 (fun _ => 0)) 11 (fun _ => 0)) 12 (fun _ => 0)) 14 (fun _ => 0)) 15 (fun _ => 0)) 17 (fun _ => 0)) 17 3 4) 17 6 2) 17 4 4)
def iEa_1 (E : Int → Int → Int) : Int → Int → Int := (pUp (pUp (pUp (pUp (pUp (pRow (pRow (pRow (pRow (pRow (pRow (pRow (pRow (pRow (pUp (pUp (pUp (pUp (pUp (pUp (pRow (pUp (pUp (pUp E 17 7 2) 17 5 4) 17 8 2) 19 (fun _ => 0)) 19 3 4) 19 6 2) 19 4 4) 19 7 2) 19 5 4) 19 8 2) 23 (fun _ => 0)) 24 (fun _ => 0)) 25 (fun _ => 0)) 26 (fun _ => 0)) 28 (fun _ => 0)) 29 (fun _ => 0)) 32 (fun _ => 0)) 33 (fun _ => 0)) 35 (fun _ => 0)) 35 3 4) 35 6 2) 35 4 4) 35 7 2) 35 5 4)
def iEa_2 (E : Int → Int → Int) : Int → Int → Int := (pUp (pUp (pRow (pUp (pUp (pUp (pUp (pUp (pUp (pRow (pRow (pRow (pRow (pRow (pRow (pRow (pRow (pRow (pRow (pRow (pRow (pRow (pRow (pUp E 35 8 2) 36 (fun _ => 0)) 37 (fun _ => 0)) 38 (fun _ => 0)) 39 (fun _ => 0)) 40 (fun _ => 0)) 42 (fun _ => 0)) 43 (fun _ => 0)) 46 (fun _ => 0)) 47 (fun _ => 0)) 48 (fun _ => 0)) 49 (fun _ => 0)) 50 (fun _ => 0)) 51 (fun _ => 0)) 54 (fun _ => 0)) 54 3 4) 54 6 2) 54 4 4) 54 7 2) 54 5 4) 54 8 2) 55 (fun _ => 0)) 55 0 999) 55 1 1)
def iEa_3 (E : Int → Int → Int) : Int → Int → Int := (pUp (pRow (pRow (pRow (pUp (pUp (pUp (pRow (pUp (pUp (pUp (pUp (pUp (pUp (pRow (pUp (pRow (pRow (pRow (pUp E 55 2 0) 56 (fun _ => 0)) 57 (fun _ => 0)) 58 (fun _ => -1)) 8 0 52) 61 (fun _ => 0)) 61 3 4) 61 6 2) 61 4 4) 61 7 2) 61 5 4) 61 8 2) 62 (fun _ => 0)) 62 0 999) 62 1 1) 62 2 0) 63 (fun _ => 0)) 64 (fun _ => 0)) 65 (fun _ => -1)) 8 (0 + 1) 59)
def iEa (E : Int → Int → Int) : Int → Int → Int := (iEa_3 (iEa_2 (iEa_1 (iEa_0 E))))
def iFb_0 (F : Int → Int → Int) : Int → Int → Int := (pUp (pUp (pUp (pUp (pUp (pUp (pUp (pUp (pUp (pUp (pUp (pUp (pUp (pUp (pUp (pUp (pUp (pUp (pUp (pUp (pUp (pUp (pUp (pUp F 66 2 67) 66 3 68) 66 4 69) 66 5 70) 66 6 71) 66 7 72) 66 9 73) 66 10 74) 66 12 75) 66 18 (-1)) 66 22 76) 66 24 77) 66 25 78) 66 27 79) 66 28 80) 66 31 81) 66 32 82) 66 33 83) 66 35 84) 66 36 85) 66 37 86) 66 41 87) 66 42 88) 66 43 89)
def iFb_1 (F : Int → Int → Int) : Int → Int → Int := (pUp (pUp (pUp (pUp (pUp (pUp (pUp (pUp (pUp (pUp (pUp (pUp (pUp (pUp (pUp (pUp (pUp F 66 44 90) 66 45 91) 66 46 92) 66 48 93) 66 54 94) 66 55 95) 66 57 96) 66 58 97) 66 60 98) 66 63 99) 66 64 100) 66 65 101) 66 66 102) 66 67 103) 66 70 (-1)) 66 73 104) 66 74 (-1))
def iFb (F : Int → Int → Int) : Int → Int → Int := (iFb_1 (iFb_0 F))
def iEb_0 (E : Int → Int → Int) : Int → Int → Int := (pUp (pUp (pUp (pUp (pUp (pUp (pUp (pUp (pUp (pRow (pRow (pRow (pRow (pRow (pRow (pRow (pRow (pRow (pRow (pRow (pRow (pRow (pRow (pRow E 67 (fun _ => 0)) 68 (fun _ => 0)) 69 (fun _ => 0)) 70 (fun _ => 0)) 71 (fun _ => 0)) 72 (fun _ => 0)) 73 (fun _ => 0)) 74 (fun _ => 0)) 75 (fun _ => 0)) 76 (fun _ => 0)) 77 (fun _ => 0)) 78 (fun _ => 0)) 79 (fun _ => 0)) 80 (fun _ => 0)) 81 (fun _ => 0)) 81 0 496) 81 1 624248366574) 81 2 1) 81 3 2) 81 4 632645) 81 5 21780338323) 81 6 13683059) 81 7 20579760) 81 8 441828)
def iEb_1 (E : Int → Int → Int) : Int → Int → Int := (pRow (pRow (pRow (pRow (pRow (pRow (pRow (pRow (pRow (pRow (pRow (pRow (pRow (pUp (pUp (pRow (pUp (pUp (pUp (pUp (pUp (pUp (pUp (pRow E 82 (fun _ => 0)) 82 0 20579760) 82 1 146885) 82 2 404362868) 82 3 19515749011) 82 4 17048404639315) 82 5 267652) 82 6 21780338323) 83 (fun _ => 0)) 83 0 3657363) 83 1 67155) 84 (fun _ => 0)) 85 (fun _ => 0)) 86 (fun _ => 0)) 87 (fun _ => 0)) 88 (fun _ => 0)) 89 (fun _ => 0)) 90 (fun _ => 0)) 91 (fun _ => 0)) 92 (fun _ => 0)) 93 (fun _ => 0)) 94 (fun _ => 0)) 95 (fun _ => 0)) 96 (fun _ => 0))
def iEb_2 (E : Int → Int → Int) : Int → Int → Int := (pUp (pUp (pUp (pUp (pUp (pUp (pUp (pUp (pUp (pRow (pRow (pUp (pUp (pUp (pUp (pRow (pRow (pRow (pRow (pRow (pRow E 97 (fun _ => 0)) 98 (fun _ => 0)) 99 (fun _ => 0)) 100 (fun _ => 0)) 101 (fun _ => 0)) 102 (fun _ => 0)) 102 0 114085) 102 1 659105125) 102 2 781652471) 102 3 9900216) 103 (fun _ => 0)) 104 (fun _ => 0)) 68 2 (-1)) 68 3 999) 68 4 1) 68 9 4) 68 12 2) 68 10 4) 68 13 2) 68 11 4) 68 14 2)
def iEb (E : Int → Int → Int) : Int → Int → Int := (iEb_2 (iEb_1 (iEb_0 E)))
set_option maxHeartbeats 8000000 in
set_option maxRecDepth 100000 in
theorem i_ctor1 {l : Launch} {G : pG} {K : Int → Nat × Nat} {F E : Int → Int → Int} {Q : Option pV → pM → Prop} (h : Q none (66, pKt K 66, iFa F, iEa E)) : PW l G 3 mX11_init (65, 8079) 0 [(0, (2, 0))] [] (1, pKt K 1, F, E) Q := by
  refine vX11_init_0 ?_
  iterate 214 (intro x e; subst e)
  exact h
set_option maxHeartbeats 8000000 in
set_option maxRecDepth 100000 in
theorem i_ctor2 {l : Launch} {G : pG} {K : Int → Nat × Nat} {F E : Int → Int → Int} {Q : Option pV → pM → Prop} (h : Q none (105, pKt K 105, iFb F, iEb E)) : PW l G 0 mX12_init (38, 24277) 0 [(0, (2, 66))] [] (67, pKt K 67, F, E) Q := by
  refine vX12_init_0 ?_
  iterate 110 (intro x e; subst e)
  exact h
/-- the same from 0 on, and as before below 0 -/
def Sm (f g X : Int → Int → Int) : Prop := (∀ a, 0 ≤ a → f a = g a) ∧ ∀ a, a < 0 → f a = X a
theorem Sm.up {f g X : Int → Int → Int} {b k v : Int} (h : Sm f g X) (hb : 0 ≤ b) : Sm (pUp f b k v) (pUp g b k v) X := by
  refine ⟨fun a ha => ?_, fun a ha => ?_⟩
  · rw [pUp1, pUp1, h.1 a ha]
  · rw [pUp1, if_neg (by omega)]
    exact h.2 a ha
theorem Sm.row {f g X : Int → Int → Int} {b : Int} {r : Int → Int} (h : Sm f g X) (hb : 0 ≤ b) : Sm (pRow f b r) (pRow g b r) X := by
  refine ⟨fun a ha => ?_, fun a ha => ?_⟩
  · rw [pRow1, pRow1, h.1 a ha]
  · rw [pRow1, if_neg (by omega)]
    exact h.2 a ha
theorem iEa_0_s {f g X : Int → Int → Int} (h : Sm f g X) : Sm (iEa_0 f) (iEa_0 g) X := by
  unfold iEa_0
  repeat' (first | exact h | refine Sm.up ?_ (by decide) | refine Sm.row ?_ (by decide))
theorem iEa_1_s {f g X : Int → Int → Int} (h : Sm f g X) : Sm (iEa_1 f) (iEa_1 g) X := by
  unfold iEa_1
  repeat' (first | exact h | refine Sm.up ?_ (by decide) | refine Sm.row ?_ (by decide))
theorem iEa_2_s {f g X : Int → Int → Int} (h : Sm f g X) : Sm (iEa_2 f) (iEa_2 g) X := by
  unfold iEa_2
  repeat' (first | exact h | refine Sm.up ?_ (by decide) | refine Sm.row ?_ (by decide))
theorem iEa_3_s {f g X : Int → Int → Int} (h : Sm f g X) : Sm (iEa_3 f) (iEa_3 g) X := by
  unfold iEa_3
  repeat' (first | exact h | refine Sm.up ?_ (by decide) | refine Sm.row ?_ (by decide))
theorem iEa_s {f g X : Int → Int → Int} (h : Sm f g X) : Sm (iEa f) (iEa g) X := (iEa_3_s (iEa_2_s (iEa_1_s (iEa_0_s h))))
theorem iEb_0_s {f g X : Int → Int → Int} (h : Sm f g X) : Sm (iEb_0 f) (iEb_0 g) X := by
  unfold iEb_0
  repeat' (first | exact h | refine Sm.up ?_ (by decide) | refine Sm.row ?_ (by decide))
theorem iEb_1_s {f g X : Int → Int → Int} (h : Sm f g X) : Sm (iEb_1 f) (iEb_1 g) X := by
  unfold iEb_1
  repeat' (first | exact h | refine Sm.up ?_ (by decide) | refine Sm.row ?_ (by decide))
theorem iEb_2_s {f g X : Int → Int → Int} (h : Sm f g X) : Sm (iEb_2 f) (iEb_2 g) X := by
  unfold iEb_2
  repeat' (first | exact h | refine Sm.up ?_ (by decide) | refine Sm.row ?_ (by decide))
theorem iEb_s {f g X : Int → Int → Int} (h : Sm f g X) : Sm (iEb f) (iEb g) X := (iEb_2_s (iEb_1_s (iEb_0_s h)))
def zF : Int → Int → Int := iFb (pRow (iFa (pRow (fun _ _ => 0) 0 (pDef 11))) 66 (pDef 12))
def zE : Int → Int → Int := iEb (iEa (fun _ _ => 0))
theorem zE_s {E : Int → Int → Int} (h : ∀ a, 0 ≤ a → E a = fun _ => 0) : Sm (iEb (iEa E)) zE E := iEb_s (iEa_s ⟨h, fun _ _ => rfl⟩)
theorem z_fs : ∀ t ∈ fTab, zF t.1 t.2.1 = t.2.2 := by decide +kernel
theorem z_es : ∀ t ∈ eTab, 0 ≤ t.1 ∧ zE t.1 t.2.1 = t.2.2 := by decide +kernel
theorem z_rel : ∀ k : Nat, k < 117 → zE 68 (((k : Nat) : Int) + 6) = zE 3 ((k : Nat) : Int) := by decide +kernel
theorem z_c : CInv (zE 3) := by
  have c0 : zE 3 0 = 0 := by decide +kernel
  refine ⟨by decide +kernel, by decide +kernel, by decide +kernel, ?_, ?_, ?_⟩
  · intro r h0 h1
    obtain rfl | rfl | rfl : r = 0 ∨ r = 1 ∨ r = 2 := by omega
    · decide +kernel
    · decide +kernel
    · decide +kernel
  · intro o h0 h1
    omega
  · intro r i h0 h1 h2 h3
    have : zE 3 (9 + r) = 0 := by
      obtain rfl | rfl | rfl : r = 0 ∨ r = 1 ∨ r = 2 := by omega
      · decide +kernel
      · decide +kernel
      · decide +kernel
    omega
theorem z_t : TInv (zE 4) := by
  unfold TInv
  decide +kernel
theorem pKt_neg {K : Int → Nat × Nat} {n : Nat} {a : Int} (h : a < 0) : pKt K n a = K a := by
  unfold pKt
  rw [if_neg (by omega)]
theorem first_inv {G : pG} {K : Int → Nat × Nat} {E X : Int → Int → Int} (hX : XS G K X) (hE : Sm E zE X) : Inv lawLR G 105 (pKt K 105) zF E := by
  have z7 : ∀ i : Nat, i < 6 → zE 7 ((i : Nat) : Int) = -1 := by decide +kernel
  have zs : zF 1 4 = 0 ∧ zF 1 6 = 0 ∧ zF 1 7 = -1 ∧ zE 68 0 = 0 ∧ zE 68 1 = 0 ∧ zE 68 2 = -1 ∧ zE 68 3 = zE 4 0 ∧ zE 68 4 = zE 4 1 ∧ zE 68 5 = zE 4 2 := by decide +kernel
  have zi : zE 9 0 = 0 ∧ zE 9 1 = 0 ∧ zE 70 0 = 0 ∧ zE 70 1 = 0 := by decide +kernel
  have zu : zF 10 2 = 0 ∧ zF 10 3 = 0 ∧ zF 66 8 = 0 ∧ zF 22 1 = 0 ∧ zF 66 13 = 0 := by decide +kernel
  have zl : zF 41 1 = 0 ∧ zF 66 59 = 0 ∧ zF 41 3 = 0 ∧ zF 66 61 = 0 ∧ zF 66 62 = zF 41 4 := by decide +kernel
  have zr : zF 66 1 = zF 0 16 ∧ zE 67 1 = zE 49 0 ∧ zE 67 2 = zE 49 1 ∧ zE 67 3 = zE 49 2 ∧ zE 67 5 = zE 49 3 ∧ zE 67 6 = zE 49 4 := by decide +kernel
  have zq : zF 66 11 = zF 0 18 ∧ zF 66 18 = zF 0 17 ∧ zF 66 70 = zF 44 5 := by decide +kernel
  have zd : zF 0 7 = 0 ∧ zF 66 74 = -1 ∧ zF 66 20 = 0 := by decide +kernel
  have h := hE.1
  refine ⟨⟨fun a ha => ?_, z_fs, by omega, fun t ht => ?_, fun w hw => ?_⟩, ?_, ?_, ?_, ?_, ?_, ?_, ?_, ?_, ?_, ?_⟩
  · unfold pKt
    rw [if_pos (by omega), Int.toNat_natCast]
  · rw [h _ (z_es t ht).1]
    exact (z_es t ht).2
  · obtain ⟨h1, h2⟩ := hX w hw
    rw [pKt_neg h1, hE.2 _ h1]
    exact ⟨h1, h2⟩
  · rw [h 3 (by decide), h 4 (by decide), h 5 (by decide), h 6 (by decide), h 7 (by decide), h 68 (by decide)]
    refine ⟨⟨fun k h0 h1 => ?_, z_c⟩, ⟨⟨zs.2.2.2.2.2.2.1, zs.2.2.2.2.2.2.2.1, zs.2.2.2.2.2.2.2.2⟩, z_t⟩, ⟨by omega, by omega, by omega, fun k h0 h1 => by omega⟩, ⟨by omega, by omega, by omega, fun i h0 h1 => by omega, fun i h0 h1 => Or.inl ?_⟩, by omega, by omega, by omega⟩
    · have := z_rel k.toNat (by omega)
      rw [Int.toNat_of_nonneg h0] at this
      exact this
    · have := z7 i.toNat (by omega)
      rw [Int.toNat_of_nonneg h0] at this
      exact this
  · rw [h 9 (by decide), h 70 (by decide)]
    exact ⟨zi.2.2.1.trans zi.1.symm, Or.inl zi.1⟩
  · rw [h 9 (by decide), h 70 (by decide)]
    exact ⟨zi.2.2.2.trans zi.2.1.symm, Or.inl zi.2.1⟩
  · exact ⟨by omega, by omega, by omega, fun i h0 h1 => by omega⟩
  · exact ⟨by omega, by omega, fun i h0 h1 => by omega⟩
  · exact ⟨by omega, by omega, zl.2.2.2.2, fun i h0 h1 => by omega, fun i h0 h1 => by omega⟩
  · rw [h 49 (by decide), h 67 (by decide)]
    exact ⟨zr.1, zr.2⟩
  · exact zq
  · exact Or.inl ⟨zd.1, zd.2.1⟩
  · exact zd.2.2
theorem law_entry {l : Launch} {G : pG} {K : Int → Nat × Nat} {E : Int → Int → Int} {Q : Option pV → pM → Prop} {x0 : Int} {len : Nat} (hx : x0 < 0) (hlen : len ≤ 3072) (hQ : ∀ μ, Q (some (0, 1)) μ) (kx : K x0 = (20, len)) (hE : ∀ a, 0 ≤ a → E a = fun _ => 0) (hX : XS G K E) : PW l G 84 mL_law (600000, 7302250) 0 [(0, (2, x0))] [] (0, K, (fun _ _ => 0), E) Q := by
  have e0 : pKt K 0 = K := by
    funext a
    unfold pKt
    rw [if_neg (by omega)]
  suffices hs : PW l G 84 mL_law (600000, 7302250) 0 [(0, (2, x0))] [] (0, pKt K 0, (fun _ _ => 0), E) Q by
    rw [e0] at hs
    exact hs
  refine n_new (q := 3) (a := 0) (n' := 1) 0 11 599999 7302230 rfl (by decide) kL_7 kin_11.1 kin_11.2 (by decide) ?_
  refine s_dup (q := 4) 1 rfl ?_
  refine s_callI (b' := (65, 8079)) (N := mX11_init) (as := []) (st := [(2, 0)]) (q := 7) (d' := 3) 2 rfl uX11_init kL_9 rfl (by decide) ?_
  refine i_ctor1 ?_
  show PW l G 84 mL_law (599934, 7294151) 7 [(0, (2, x0))] [(2, 0)] _ Q
  refine s_astore_n (q := 8) (i := 1) (lv' := [(1, (2, 0)), (0, (2, x0))]) 3 rfl rfl ?_
  refine n_new (q := 11) (a := 66) (n' := 67) 4 12 599933 7294076 rfl (by decide) kL_10 kin_12.1 kin_12.2 (by decide) ?_
  refine s_dup (q := 12) 5 rfl ?_
  refine s_callI (b' := (38, 24277)) (N := mX12_init) (as := []) (st := [(2, 66)]) (q := 15) (d' := 0) 6 rfl uX12_init kL_12 rfl (by decide) ?_
  refine i_ctor2 ?_
  show PW l G 84 mL_law (599895, 7269799) 15 [(1, (2, 0)), (0, (2, x0))] [(2, 66)] _ Q
  refine s_astore_n (q := 16) (i := 2) (lv' := [(2, (2, 66)), (1, (2, 0)), (0, (2, x0))]) 7 rfl rfl ?_
  refine s_iconst (q := 17) 8 rfl ?_
  refine s_istore_n (q := 18) (i := 3) (lv' := [(3, (0, 0)), (2, (2, 66)), (1, (2, 0)), (0, (2, x0))]) 9 rfl rfl ?_
  exact PW.pick [3, 2, 1, 0] rfl (law_loop hx hlen hQ 512 0 (599895, 7269799) 105 (pKt K 105) zF (iEb (iEa E)) (by decide) (by decide) (by omega) (by decide) (by decide) (by rw [pKt_neg hx]; exact kx) (first_inv hX (zE_s hE)))
