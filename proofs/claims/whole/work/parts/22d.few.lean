/-! things that are new; the pair few -/
theorem PW.fresh {l : Launch} {G : pG} {d : Nat} {M : pMeth} {bg : Nat × Nat} {pc : Nat} {lv : List (Nat × pV)} {st : List pV} {μ : pM} {Q : Option pV → pM → Prop} (h : (∀ a : Nat, μ.1 ≤ a → (μ.2.1 a).1 = 99) → PW l G d M bg pc lv st μ Q) : PW l G d M bg pc lv st μ Q := by
  intro ok p e R s m args below meth c C Qc mc ms free H locs cells slots ls lvJ stJ hin
  exact h (fun a ha => hin.2.2.2.2.1.2.2.1 a ha) ok p e R s m args below meth c C Qc mc ms free H locs cells slots ls lvJ stJ hin
theorem KR.mono {LA LA' : Int → (Int → Int) → Prop} {cA cT c1 c2 cL g : Int → Int} {s l f : Int} (h : KR LA cA cT c1 c2 cL s l f g) (hl : ∀ t r, LA t r → LA' t r) : KR LA' cA cT c1 c2 cL s l f g := by
  obtain ⟨h1, h2, h3, ⟨h4, h5, h6, h7, h8⟩, h9⟩ := h
  exact ⟨h1, h2, h3, ⟨h4, h5, h6, fun i a b => hl _ _ (h7 i a b), fun i a b => (h8 i a b).imp id (fun ⟨r, q⟩ => ⟨r, hl _ _ q⟩)⟩, h9⟩
theorem ImR.mono {LA LA' : Int → (Int → Int) → Prop} {ck mk : Int} {cA cT c1 c2 cL g : Int → Int} {s l f : Int} (h : ImR LA ck mk cA cT c1 c2 cL s l f g) (hl : ∀ t r, LA t r → LA' t r) : ImR LA' ck mk cA cT c1 c2 cL s l f g :=
  ⟨h.1, h.2.imp id (fun z => ⟨z.1, z.2.mono hl⟩)⟩
theorem Inv.grow {LR : tLR} {G : pG} {n n' : Nat} {K K' : Int → Nat × Nat} {F E F' E' : Int → Int → Int} (h : Inv LR G n K F E) (hf : ∀ a : Nat, n ≤ a → (K a).1 = 99) (hn : n ≤ n') (hK : ∀ a : Int, a < n → K' a = K a) (hF : ∀ a : Int, a < n → F' a = F a) (hE : ∀ a : Int, a < n → E' a = E a) : Inv LR G n' K' F' E' := by
  obtain ⟨⟨h1, h2, h3, h4, h5⟩, h6, h7, h8, h9, h10, h11, h12, h13, h14, h15⟩ := h
  have lt : ∀ t : Int, 0 ≤ t → (K t).1 ≠ 99 → t < n := fun t t0 q => by
    by_cases e : t < n
    · exact e
    · exact absurd (by have := hf t.toNat (by omega); rw [show ((t.toNat : Nat) : Int) = t by omega] at this; exact this) q
  have hL : ∀ t r, LawAt LR K F E t r → LawAt LR K' F' E' t r := by
    intro t r ⟨a1, a2, a3, a4, a5, a6, a7⟩
    have b1 := lt t (by omega) (by rw [a2]; decide)
    have b2 := lt (F t 0) (by omega) (by rw [a5]; dsimp only; decide)
    have b3 := lt (F t 1) (by omega) (by rw [a6]; dsimp only; decide)
    unfold LawAt
    rw [hF t b1, hK t b1, hK _ b2, hK _ b3, hE _ b2, hE _ b3]
    exact ⟨a1, a2, a3, a4, a5, a6, a7⟩
  have z : ∀ k : Nat, k < 105 → (k : Int) < n := fun k hk => by omega
  refine ⟨⟨fun a ha => (hK a (by omega)).trans (h1 a ha), fun t ht => ?_, by omega, fun t ht => ?_, fun w hw => ?_⟩, ?_⟩
  · have q : fTab.all (fun t => decide (t.1 < 105)) = true := by decide +kernel
    have := List.all_eq_true.mp q t ht
    simp at this
    rw [hF t.1 (by omega)]
    exact h2 t ht
  · have q : eTab.all (fun t => decide (t.1 < 105)) = true := by decide +kernel
    have := List.all_eq_true.mp q t ht
    simp at this
    rw [hE t.1 (by omega)]
    exact h4 t ht
  · obtain ⟨a, b⟩ := h5 w hw
    rw [hE _ (by omega), hK _ (by omega)]
    exact ⟨a, b⟩
  rw [hE 3 (z 3 (by decide)), hE 4 (z 4 (by decide)), hE 5 (z 5 (by decide)), hE 6 (z 6 (by decide)), hE 7 (z 7 (by decide)), hE 68 (z 68 (by decide)), hE 9 (z 9 (by decide)), hE 70 (z 70 (by decide)), hE 54 (z 54 (by decide)), hE 55 (z 55 (by decide)), hE 56 (z 56 (by decide)), hE 57 (z 57 (by decide)), hE 58 (z 58 (by decide)), hE 69 (z 69 (by decide)), hE 61 (z 61 (by decide)), hE 62 (z 62 (by decide)), hE 63 (z 63 (by decide)), hE 64 (z 64 (by decide)), hE 65 (z 65 (by decide)), hE 11 (z 11 (by decide)), hE 12 (z 12 (by decide)), hE 71 (z 71 (by decide)), hE 72 (z 72 (by decide)), hE 23 (z 23 (by decide)), hE 75 (z 75 (by decide)), hE 42 (z 42 (by decide)), hE 97 (z 97 (by decide)), hE 43 (z 43 (by decide)), hE 98 (z 98 (by decide)), hE 49 (z 49 (by decide)), hE 67 (z 67 (by decide)), hE 19 (z 19 (by decide)), hE 104 (z 104 (by decide))]
  rw [hF 1 (z 1 (by decide)), hF 52 (z 52 (by decide)), hF 59 (z 59 (by decide)), hF 10 (z 10 (by decide)), hF 66 (z 66 (by decide)), hF 22 (z 22 (by decide)), hF 41 (z 41 (by decide)), hF 0 (z 0 (by decide)), hF 44 (z 44 (by decide))]
  exact ⟨h6.mono hL, h7.mono hL, h8.mono hL, h9, h10, h11, h12, h13, h14, h15⟩
/-! answers that are longs -/
def PostR1 (LR : tLR) (G : pG) (v : Int) (μ1 : pM) (r' : Option pV) (μ2 : pM) : Prop := r' = some (1, v) ∧ Out μ1 μ2 ∧ InvM LR G μ2
def PostC1 (LR : tLR) (l : Launch) (G : pG) (d : Nat) (m : pMeth) (bg : Nat × Nat) (as : List pV) (μ : pM) (r : Option pV) (μ1 : pM) : Prop :=
  ∃ v, r = some (1, v) ∧ Out μ μ1 ∧ KS μ1.2.1 ∧ PC l G d m bg ((2, 66) :: as) μ1 (PostR1 LR G v μ1)
def Pair1 (LR : tLR) (l : Launch) (G : pG) (dc : Nat) (mc : pMeth) (bc : Nat × Nat) (dr : Nat) (mr : pMeth) (br : Nat × Nat) (as : List pV) : Prop :=
  ∀ n K F E, Inv LR G n K F E → PC l G dc mc bc ((2, 0) :: as) (n, K, F, E) (PostC1 LR l G dr mr br as (n, K, F, E))
/-! the chances -/
def fq (x y : Int) : Int := w64 ((w64 (x * y)).tdiv 10)
def fStep (s : Int) (f : Int → Int) : Int → Int := fun j => fq (f j) (10 - s) + (if j = 0 then 0 else fq (f (j - 1)) s)
def fRow (s : Int) : Nat → Int → Int
  | 0 => fun j => if j = 0 then 1000000000000 else 0
  | m + 1 => fStep s (fRow s m)
def fSum (f : Int → Int) : Nat → Int
  | 0 => 0
  | m + 1 => fSum f m + f m
theorem fq_val {x y : Int} (x0 : 0 ≤ x) (x1 : x ≤ 1000000000000) (y0 : 0 ≤ y) (y1 : y ≤ 10) : fq x y = x * y / 10 ∧ 0 ≤ fq x y ∧ 10 * fq x y ≤ 1000000000000 * y := by
  have h1 : 0 ≤ x * y := Int.mul_nonneg x0 y0
  have h2 : x * y ≤ 1000000000000 * y := Int.mul_le_mul_of_nonneg_right x1 y0
  unfold fq
  generalize x * y = p at *
  rw [w64_id (x := p) (by omega) (by omega), Int.tdiv_eq_ediv_of_nonneg h1, w64_id (by omega) (by omega)]
  omega
theorem fRow_rng {s : Int} (s0 : 0 ≤ s) (s1 : s ≤ 10) (m : Nat) : ∀ j, 0 ≤ fRow s m j ∧ fRow s m j ≤ 1000000000000 := by
  induction m with
  | zero => intro j; unfold fRow; split <;> omega
  | succ m ih =>
    intro j
    show 0 ≤ fStep s (fRow s m) j ∧ fStep s (fRow s m) j ≤ 1000000000000
    unfold fStep
    have a := fq_val (ih j).1 (ih j).2 (show 0 ≤ 10 - s by omega) (by omega)
    have b := fq_val (ih (j - 1)).1 (ih (j - 1)).2 s0 s1
    split <;> omega
theorem fSum_rng {f : Int → Int} (h : ∀ j, 0 ≤ f j ∧ f j ≤ 1000000000000) (m : Nat) : 0 ≤ fSum f m ∧ fSum f m ≤ 1000000000000 * m := by
  induction m with
  | zero => unfold fSum; omega
  | succ m ih =>
    show 0 ≤ fSum f m + f m ∧ fSum f m + f m ≤ 1000000000000 * ((m + 1 : Nat) : Int)
    have := h m
    omega
section F
variable {l : Launch} {G : pG} {bg : Nat × Nat} {n : Nat} {K : Int → Nat × Nat} {F : Int → Int → Int} {Q : Option pV → pM → Prop} {k s a : Int}
/-- one tuple: the class's row from above -/
theorem c_few_61 {i m : Int} {f : Int → Int} (s0 : 0 ≤ s) (s1 : s ≤ 10) (a0 : 0 ≤ a) (hK : K a = (21, k.toNat)) (k0 : 1 ≤ k) (k1 : k ≤ 20) (i0 : 0 ≤ i) (i1 : i < 100) (hf : ∀ j, 0 ≤ f j ∧ f j ≤ 1000000000000) (t : Nat) : ∀ (j : Int) (E0 : Int → Int → Int) (g : Int → Int), j + 1 = t → j < k → (∀ v, 0 ≤ v → v < k → g v = if j < v then fStep s f v else f v) → (∀ g', (∀ v, 0 ≤ v → v < k → g' v = fStep s f v) → PW l G 0 mX11_few (0, 0) 50 [(1, (0, k)), (2, (0, m)), (3, (0, s)), (4, (2, a)), (5, (0, i + 1))] [] (n, K, F, pRow E0 a g') Q) → PW l G 0 mX11_few (0, 0) 61 [(1, (0, k)), (2, (0, m)), (3, (0, s)), (4, (2, a)), (5, (0, i)), (6, (0, j))] [] (n, K, F, pRow E0 a g) Q := by
  induction t with
  | zero =>
    intro j E0 g e jk hg q
    refine vX11_few_61 k m s a i j ⟨fun _ => ⟨by omega, q g fun v v0 v1 => ?_⟩, fun z => absurd (by omega) z⟩
    rw [hg v v0 v1, if_pos (by omega)]
  | succ t ih =>
    intro j E0 g e jk hg q
    have gj : g j = f j := by rw [hg j (by omega) jk, if_neg (by omega)]
    have r1 := fq_val (hf j).1 (hf j).2 (show 0 ≤ 10 - s by omega) (by omega)
    have r2 := fq_val (hf (j - 1)).1 (hf (j - 1)).2 s0 s1
    have nx : ∀ g', g' j = fStep s f j → (∀ v, v ≠ j → g' v = g v) → PW l G 0 mX11_few (0, 0) 61 [(1, (0, k)), (2, (0, m)), (3, (0, s)), (4, (2, a)), (5, (0, i)), (6, (0, j + (-1)))] [] (n, K, F, pRow E0 a g') Q := fun g' h1 h2 => by
      refine ih (j + (-1)) E0 g' (by omega) (by omega) (fun v v0 v1 => ?_) q
      by_cases e2 : v = j
      · rw [e2, h1, if_pos (by omega)]
      · rw [h2 v e2, hg v v0 v1]
        by_cases e3 : j < v
        · rw [if_pos e3, if_pos (by omega)]
        · rw [if_neg e3, if_neg (by omega)]
    refine vX11_few_61 k m s a i j ⟨fun z => absurd z (by omega), fun _ => ?_⟩
    rw [hK, pRow_at, gj]
    refine ⟨a0, rfl, ⟨by omega, show j < ((k.toNat : Nat) : Int) by omega⟩, by omega, fun a1 e1 => ⟨fun z => ⟨by omega, ⟨by omega, show j - 1 < ((k.toNat : Nat) : Int) by omega⟩, fun a2 e2 => ?_⟩, fun z E4 e4 => ⟨by omega, ?_⟩⟩⟩
    · rw [hg (j - 1) (by omega) (by omega), if_neg (by omega)] at e2
      have q1 : a1 = fq (f j) (10 - s) := e1
      have q2 : a2 = fq (f (j - 1)) s := e2
      refine ⟨by omega, fun E3 e3 => ⟨by omega, ?_⟩⟩
      rw [e3, pUp_row, pRow_row, pRow_at]
      refine nx _ ?_ (fun v hv => rUp_n hv)
      rw [rUp_s, q1, q2]
      unfold fStep
      rw [if_neg z]
    · rw [e4, pUp_row, pRow_row, pRow_at]
      refine nx _ ?_ (fun v hv => rUp_n hv)
      rw [rUp_s, e1]
      unfold fStep
      rw [if_pos z]
      show fq (f j) (10 - s) = _
      omega
theorem c_few_50 {m : Int} (s0 : 0 ≤ s) (s1 : s ≤ 10) (a0 : 0 ≤ a) (hK : K a = (21, k.toNat)) (k0 : 1 ≤ k) (k1 : k ≤ 20) (m1 : m ≤ 99) (t : Nat) : ∀ (w : Nat) (E0 : Int → Int → Int) (g : Int → Int), (w : Int) + t = m → (∀ v, 0 ≤ v → v < k → g v = fRow s w v) → (∀ g', (∀ v, 0 ≤ v → v < k → g' v = fRow s m.toNat v) → PW l G 0 mX11_few (0, 0) 133 [(1, (0, k)), (4, (2, a)), (5, (1, 0)), (7, (0, 0))] [] (n, K, F, pRow E0 a g') Q) → PW l G 0 mX11_few (0, 0) 50 [(1, (0, k)), (2, (0, m)), (3, (0, s)), (4, (2, a)), (5, (0, (w : Int)))] [] (n, K, F, pRow E0 a g) Q := by
  induction t with
  | zero =>
    intro w E0 g e hg q
    refine vX11_few_50 k m s a w ⟨fun _ => q g fun v v0 v1 => ?_, fun z => absurd (by omega) z⟩
    rw [hg v v0 v1, show m.toNat = w by omega]
  | succ t ih =>
    intro w E0 g e hg q
    refine vX11_few_50 k m s a w ⟨fun z => absurd z (by omega), fun _ => ⟨by omega, ?_⟩⟩
    refine c_few_61 (f := fRow s w) s0 s1 a0 hK k0 k1 (by omega) (by omega) (fRow_rng s0 s1 w) k.toNat (k - 1) E0 g (by omega) (by omega) (fun v v0 v1 => ?_) fun g' h' => ?_
    · rw [hg v v0 v1, if_neg (by omega)]
    · exact ih (w + 1) E0 g' (by omega) h' q
theorem c_few_133 {f : Int → Int} (a0 : 0 ≤ a) (hK : K a = (21, k.toNat)) (k0 : 1 ≤ k) (k1 : k ≤ 20) {E : Int → Int → Int} (hf : ∀ j, 0 ≤ f j ∧ f j ≤ 1000000000000) (hg : ∀ v, 0 ≤ v → v < k → E a v = f v) (hQ : Q (some (1, fSum f k.toNat)) (n, K, F, E)) (t : Nat) : ∀ w : Nat, (w : Int) + t = k → PW l G 0 mX11_few (0, 0) 133 [(1, (0, k)), (4, (2, a)), (5, (1, fSum f w)), (7, (0, (w : Int)))] [] (n, K, F, E) Q := by
  induction t with
  | zero =>
    intro w e
    refine vX11_few_133 k a _ w ⟨fun _ => ?_, fun z => absurd (by omega) z⟩
    rw [show w = k.toNat by omega]
    exact hQ
  | succ t ih =>
    intro w e
    refine vX11_few_133 k a _ w ⟨fun z => absurd z (by omega), fun _ => ?_⟩
    have r := fSum_rng hf w
    have fw := hf w
    rw [hK, hg w (by omega) (by omega)]
    exact ⟨a0, rfl, ⟨by omega, show (w : Int) < ((k.toNat : Nat) : Int) by omega⟩, by omega, by omega, ih (w + 1) (by omega)⟩
/-- the reference's row from above -/
theorem r_few_85 {i m : Int} {f : Int → Int} (hK : KS K) (hF : FS F) (s0 : 0 ≤ s) (s1 : s ≤ 10) (k0 : 1 ≤ k) (k1 : k ≤ 20) (i0 : 0 ≤ i) (i1 : i < 100) (hf : ∀ j, 0 ≤ f j ∧ f j ≤ 1000000000000) (t : Nat) : ∀ (j : Int) (E0 : Int → Int → Int) (g : Int → Int), j + 1 = t → j < k → (∀ v, 0 ≤ v → v < k → g v = if j + 1 < v then fStep s f v else if v = j + 1 then fq (f v) (10 - s) else f v) → (0 ≤ g k ∧ g k ≤ 1000000000000 * (i + (if j + 1 < k then 1 else 0))) → (∀ g', (∀ v, 0 ≤ v → v < k → g' v = fStep s f v) → (0 ≤ g' k ∧ g' k ≤ 1000000000000 * (i + 1)) → PW l G 1 mX12_few bg 74 [(0, (2, 66)), (1, (0, k)), (2, (0, m)), (3, (0, s)), (4, (0, i + 1))] [] (n, K, F, pRow E0 101 g') Q) → PW l G 1 mX12_few bg 85 [(0, (2, 66)), (1, (0, k)), (2, (0, m)), (3, (0, s)), (4, (0, i)), (5, (0, j))] [] (n, K, F, pRow E0 101 g) Q := by
  induction t with
  | zero =>
    intro j E0 g e jk hg hk q
    refine vX12_few_85 66 k m s i j ⟨fun _ => ⟨by omega, q g (fun v v0 v1 => ?_) (by split at hk <;> omega)⟩, fun z => absurd (by omega) z⟩
    rw [hg v v0 v1]
    by_cases e2 : v = 0
    · rw [if_neg (by omega), if_pos (by omega)]
      unfold fStep
      rw [if_pos e2]
      omega
    · rw [if_pos (by omega)]
  | succ t ih =>
    intro j E0 g e jk hg hk q
    have gj : g j = f j := by rw [hg j (by omega) jk, if_neg (by omega), if_neg (by omega)]
    have r1 := fq_val (hf j).1 (hf j).2 (show 0 ≤ 10 - s by omega) (by omega)
    have r2 := fq_val (hf j).1 (hf j).2 s0 s1
    have r3 := fq_val (hf (j + 1)).1 (hf (j + 1)).2 (show 0 ≤ 10 - s by omega) (by omega)
    refine vX12_few_85 66 k m s i j ⟨fun z => absurd z (by omega), fun _ => ?_⟩
    simp only [hF.f66_65, hK.k66, hK.k101, pRow_at, gj]
    refine ⟨trivial, by decide, trivial, by omega, by omega, fun a1 e1 E2 e2 => ⟨by omega, by omega, fun a3 e3 => ?_⟩⟩
    have q1 : a1 = fq (f j) (10 - s) := e1
    have q3 : a3 = fq (f j) s := e3
    have gj1 : 0 ≤ g (j + 1) ∧ g (j + 1) ≤ 1000000000000 * 101 := by
      by_cases e4 : j + 1 = k
      · rw [e4]; split at hk <;> omega
      · rw [hg (j + 1) (by omega) (by omega), if_neg (by omega), if_pos rfl]; omega
    refine ⟨by omega, fun E4 e4 => ⟨by omega, ?_⟩⟩
    have q4 : E4 = pRow E0 101 (rUp (rUp g j a1) (j + 1) (g (j + 1) + a3)) := by
      rw [e4, e2]
      simp only [pUp_row, pRow_row, pRow_at]
    rw [q4]
    refine ih (j + (-1)) E0 _ (by omega) (by omega) (fun v v0 v1 => ?_) ?_ q
    · by_cases c1 : v = j + 1
      · rw [c1, rUp_s, if_pos (by omega), hg (j + 1) (by omega) (by omega), if_neg (by omega), if_pos rfl, q3]
        unfold fStep
        rw [if_neg (by omega), show j + 1 - 1 = j by omega]
      · rw [rUp_n c1]
        by_cases c2 : v = j
        · rw [c2, rUp_s, if_neg (by omega), if_pos (by omega), q1]
        · rw [rUp_n c2, hg v v0 v1]
          by_cases c3 : j + 1 < v
          · rw [if_pos c3, if_pos (by omega)]
          · rw [if_neg c3, if_neg c1, if_neg (by omega), if_neg (by omega)]
    · by_cases c1 : k = j + 1
      · rw [c1, rUp_s, if_pos (by omega), ← c1]
        rw [if_neg (by omega)] at hk
        omega
      · rw [rUp_n c1, rUp_n (by omega), if_pos (by omega)]
        rw [if_pos (by omega)] at hk
        exact hk
theorem r_few_74 {m : Int} (hK : KS K) (hF : FS F) (s0 : 0 ≤ s) (s1 : s ≤ 10) (k0 : 1 ≤ k) (k1 : k ≤ 20) (m1 : m ≤ 99) (t : Nat) : ∀ (w : Nat) (E0 : Int → Int → Int) (g : Int → Int), (w : Int) + t = m → (∀ v, 0 ≤ v → v < k → g v = fRow s w v) → (0 ≤ g k ∧ g k ≤ 1000000000000 * w) → (∀ g', (∀ v, 0 ≤ v → v < k → g' v = fRow s m.toNat v) → PW l G 1 mX12_few bg 157 [(0, (2, 66)), (1, (0, k)), (4, (1, 0)), (6, (0, 0))] [] (n, K, F, pRow E0 101 g') Q) → PW l G 1 mX12_few bg 74 [(0, (2, 66)), (1, (0, k)), (2, (0, m)), (3, (0, s)), (4, (0, (w : Int)))] [] (n, K, F, pRow E0 101 g) Q := by
  induction t with
  | zero =>
    intro w E0 g e hg hk q
    refine vX12_few_74 66 k m s w ⟨fun _ => q g fun v v0 v1 => ?_, fun z => absurd (by omega) z⟩
    rw [hg v v0 v1, show m.toNat = w by omega]
  | succ t ih =>
    intro w E0 g e hg hk q
    refine vX12_few_74 66 k m s w ⟨fun z => absurd z (by omega), fun _ => ⟨by omega, ?_⟩⟩
    refine r_few_85 (f := fRow s w) hK hF s0 s1 k0 k1 (by omega) (by omega) (fRow_rng s0 s1 w) k.toNat (k - 1) E0 g (by omega) (by omega) (fun v v0 v1 => ?_) ?_ fun g' h' hk' => ?_
    · rw [hg v v0 v1, if_neg (by omega), if_neg (by omega)]
    · rw [if_neg (by omega)]; omega
    · exact ih (w + 1) E0 g' (by omega) h' (by omega) q
theorem r_few_157 {f : Int → Int} (hK : KS K) (hF : FS F) (k0 : 1 ≤ k) (k1 : k ≤ 20) {E : Int → Int → Int} (hf : ∀ j, 0 ≤ f j ∧ f j ≤ 1000000000000) (hg : ∀ v, 0 ≤ v → v < k → E 101 v = f v) (hQ : Q (some (1, fSum f k.toNat)) (n, K, F, E)) (t : Nat) : ∀ w : Nat, (w : Int) + t = k → PW l G 1 mX12_few bg 157 [(0, (2, 66)), (1, (0, k)), (4, (1, fSum f w)), (6, (0, (w : Int)))] [] (n, K, F, E) Q := by
  induction t with
  | zero =>
    intro w e
    refine vX12_few_157 66 k _ w ⟨fun _ => ?_, fun z => absurd (by omega) z⟩
    rw [show w = k.toNat by omega]
    exact hQ
  | succ t ih =>
    intro w e
    refine vX12_few_157 66 k _ w ⟨fun z => absurd z (by omega), fun _ => ?_⟩
    have r := fSum_rng hf w
    have fw := hf w
    simp only [hF.f66_65, hK.k66, hK.k101]
    rw [hg w (by omega) (by omega)]
    exact ⟨trivial, by decide, trivial, by omega, by omega, by omega, ih (w + 1) (by omega)⟩
theorem r_few_35 {m : Int} (hK : KS K) (hF : FS F) (t : Nat) : ∀ (j : Int) (E0 : Int → Int → Int) (g : Int → Int), j + t = 21 → 0 ≤ j → (∀ v, 0 ≤ v → v < j → g v = if v = 0 then 1000000000000 else 0) → (∀ g', (∀ v, 0 ≤ v → v < 21 → g' v = if v = 0 then 1000000000000 else 0) → PW l G 1 mX12_few bg 74 [(0, (2, 66)), (1, (0, k)), (2, (0, m)), (3, (0, E0 68 4)), (4, (0, 0))] [] (n, K, F, pRow E0 101 g') Q) → PW l G 1 mX12_few bg 35 [(0, (2, 66)), (1, (0, k)), (2, (0, m)), (3, (0, j))] [] (n, K, F, pRow E0 101 g) Q := by
  induction t with
  | zero =>
    intro j E0 g e j0 hg q
    refine vX12_few_35 66 k m j ⟨fun _ => ?_, fun z => absurd (by omega) z⟩
    simp only [hF.f66_3, hK.k66, hK.k68]
    rw [pRow_ne (show (68 : Int) ≠ 101 by decide)]
    exact ⟨trivial, trivial, by decide, q g fun v v0 v1 => hg v v0 (by omega)⟩
  | succ t ih =>
    intro j E0 g e j0 hg q
    refine vX12_few_35 66 k m j ⟨fun z => absurd z (by omega), fun _ => ?_⟩
    simp only [hF.f66_65, hK.k66, hK.k101]
    refine ⟨trivial, fun z => ⟨by decide, trivial, by omega, fun E1 e1 => ⟨by omega, ?_⟩⟩, fun z => ⟨by decide, trivial, by omega, fun E1 e1 => ⟨by omega, ?_⟩⟩⟩
    · rw [e1, pUp_row, pRow_row, pRow_at]
      refine ih (j + 1) E0 _ (by omega) (by omega) (fun v v0 v1 => ?_) q
      by_cases c : v = j
      · rw [c, rUp_s, if_neg z]
      · rw [rUp_n c]; exact hg v v0 (by omega)
    · rw [e1, pUp_row, pRow_row, pRow_at]
      refine ih (j + 1) E0 _ (by omega) (by omega) (fun v v0 v1 => ?_) q
      by_cases c : v = j
      · rw [c, rUp_s, if_pos z]
      · rw [rUp_n c]; exact hg v v0 (by omega)
end F
theorem two_few {LR : tLR} {l : Launch} {G : pG} {x1 x2 : Int} : Pair1 LR l G 0 mX11_few (1, 20) 1 mX12_few (0, 0) [(0, x1), (0, x2)] := by
  intro n K F E h
  have hK := h.KS
  have hF := h.FS
  have hn := h.1.2.2.1
  have hT := h.2.1.2.1
  have t1 : E 68 4 = E 4 1 := hT.1.2.1
  have t2 : 0 ≤ E 4 1 ∧ E 4 1 ≤ 10 := hT.2.2.1
  have no : ¬ ((1 ≤ x1 ∧ x1 ≤ 20) ∧ 0 ≤ x2 ∧ x2 ≤ 99) → PostC1 LR l G 1 mX12_few (0, 0) [(0, x1), (0, x2)] (n, K, F, E) (some (1, -1)) (n, K, F, E) := fun z => by
    refine ⟨_, rfl, Out.refl, hK, vX12_few_0 66 x1 x2 ⟨by rw [hK.k66], fun F1 e1 => ?_⟩⟩
    subst e1
    exact ⟨fun _ => ⟨rfl, Out.F, h.zero⟩, fun a => ⟨fun b => absurd ⟨a, b⟩ z, fun _ => ⟨rfl, Out.F, h.zero⟩⟩⟩
  refine PW.fresh fun fr => vX11_few_0 0 x1 x2 ?_
  simp only [hF.f0_0, hF.f1_1, hK.k0, hK.k1, hK.k4]
  refine ⟨fun z => no (by omega), fun a => ⟨fun z => no (by omega), fun b => ⟨fun z => no (by omega), fun c => ⟨fun d => ⟨trivial, trivial, trivial, by decide, by omega, fun a1 e1 K2 e2 E3 e3 => ?_⟩, fun z => no (by omega)⟩⟩⟩⟩
  have kk : K2 a1 = (21, x1.toNat) := by rw [e2]; unfold pKu; rw [if_pos rfl]
  have ko : ∀ b : Int, b < n → K2 b = K b := fun b hb => by rw [e2]; unfold pKu; rw [if_neg (by omega)]
  rw [kk]
  refine ⟨by omega, rfl, ⟨by omega, show (0 : Int) < ((x1.toNat : Nat) : Int) by omega⟩, fun E4 e4 => ?_⟩
  have q4 : E4 = pRow E a1 (rUp (fun _ => 0) 0 1000000000000) := by rw [e4, e3, pUp_row, pRow_row, pRow_at]
  rw [q4]
  refine c_few_50 (s := E 4 1) t2.1 t2.2 (by omega) kk (by omega) (by omega) d x2.toNat 0 E _ (by omega) (fun v v0 v1 => rfl) fun g' hg' => ?_
  refine c_few_133 (f := fRow (E 4 1) x2.toNat) (by omega) kk (by omega) (by omega) (fRow_rng t2.1 t2.2 _) (fun v v0 v1 => by rw [pRow_at]; exact hg' v v0 v1) ?_ x1.toNat 0 (by omega)
  have hi : Inv LR G (n + 1) K2 F (pRow E a1 g') := h.grow fr (by omega) ko (fun _ _ => rfl) (fun b hb => pRow_ne (by omega))
  have hK2 := hi.KS
  refine ⟨_, rfl, fun b hb => ⟨ko b (by omega), pRow_ne (by omega)⟩, hK2, vX12_few_0 66 x1 x2 ⟨by rw [hK2.k66], fun F1 f1 => ⟨fun z => absurd (by omega) z, fun _ => ⟨fun _ => ?_, fun z => absurd (by omega) z⟩⟩⟩⟩
  subst f1
  have hF' : FS (pUp F 66 0 0) := hF.up (by decide +kernel)
  suffices hh : PW l G 1 mX12_few (0, 0) 35 [(0, (2, 66)), (1, (0, x1)), (2, (0, x2)), (3, (0, 0))] [] (n + 1, K2, pUp F 66 0 0, pRow (pRow E a1 g') 101 (pRow E a1 g' 101)) (PostR1 LR G (fSum (fRow (E 4 1) x2.toNat) x1.toNat) (n + 1, K2, F, pRow E a1 g')) by
    rw [pRow_self] at hh
    exact hh
  have e684 : pRow E a1 g' 68 4 = E 4 1 := by rw [pRow_ne (by omega)]; exact t1
  refine r_few_35 hK2 hF' 21 0 _ _ (by decide) (by decide) (fun v v0 v1 => absurd v1 (by omega)) fun g2 h2 => ?_
  rw [e684]
  refine r_few_74 hK2 hF' t2.1 t2.2 (by omega) (by omega) d x2.toNat 0 _ g2 (by omega) (fun v v0 v1 => h2 v v0 (by omega)) ?_ fun g3 h3 => ?_
  · rw [h2 x1 (by omega) (by omega), if_neg (by omega)]; omega
  refine r_few_157 (f := fRow (E 4 1) x2.toNat) hK2 hF' (by omega) (by omega) (fRow_rng t2.1 t2.2 _) (fun v v0 v1 => by rw [pRow_at]; exact h3 v v0 v1) ?_ x1.toNat 0 (by omega)
  refine ⟨rfl, Out.refl.onF.row (by decide), inv_scratch hi FI.refl (EI.refl.row (by decide +kernel) (by decide +kernel) (by decide))⟩
