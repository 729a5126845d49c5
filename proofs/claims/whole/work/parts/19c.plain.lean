/-! PAIRS without loops (gen_pairs.py) -/
theorem rUpA {r : Int → Int} {k v j : Int} : rUp r k v j = if j = k then v else r j := rfl
theorem Inv.build {LR : tLR} {G : pG} {n : Nat} {K : Int → Nat × Nat} {F E F' E' : Int → Int → Int} (h : Inv LR G n K F E) (hF : FS F') (hE : ES E') (hx : ∀ a, a < 0 → E' a = E a) (f3 : ∀ a, 105 ≤ a → F' a = F a) (e3 : ∀ a, 105 ≤ a → E' a = E a)
    (c1 : KR (LawAt LR K F E) (E' 3) (E' 4) (E' 5) (E' 6) (E' 7) (F' 1 4) (F' 1 6) (F' 1 7) (E' 68))
    (c2 : ImR (LawAt LR K F E) (E' 9 0) (E' 70 0) (E' 54) (E' 55) (E' 56) (E' 57) (E' 58) (F' 52 4) (F' 52 6) (F' 52 7) (fun j => E' 69 j))
    (c3 : ImR (LawAt LR K F E) (E' 9 1) (E' 70 1) (E' 61) (E' 62) (E' 63) (E' 64) (E' 65) (F' 59 4) (F' 59 6) (F' 59 7) (fun j => E' 69 (5535 + j)))
    (c4 : UR (F' 10 2) (F' 10 3) (E' 11) (E' 12) (F' 66 8) (E' 71) (E' 72))
    (c5 : TpR (F' 22 1) (E' 23) (F' 66 13) (E' 75))
    (c6 : LtR (F' 41 1) (E' 42) (F' 41 3) (E' 43) (F' 41 4) (F' 66 59) (E' 97) (F' 66 61) (E' 98) (F' 66 62))
    (c7 : F' 66 1 = F' 0 16 ∧ RfR (E' 49) (E' 67)) (c8 : F' 66 11 = F' 0 18 ∧ F' 66 18 = F' 0 17 ∧ F' 66 70 = F' 44 5)
    (c9 : DrR (F' 0 7) (E' 19) (F' 66 74) (E' 104)) (c10 : F' 66 20 = 0) : Inv LR G n K F' E' := by
  have h5' : XS G K E' := by
    intro w hw
    obtain ⟨a, b⟩ := h.1.2.2.2.2 w hw
    rw [hx _ a]
    exact ⟨a, b⟩
  have hL : LawAt LR K F' E' = LawAt LR K F E := LawAt.keepP f3 e3
  refine ⟨⟨h.1.1, hF, h.1.2.2.1, hE, h5'⟩, ?_⟩
  rw [hL]
  exact ⟨c1, c2, c3, c4, c5, c6, c7, c8, c9, c10⟩
