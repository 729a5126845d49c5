/-! LAWS: clauses by what their tests and sums come to; both programs' texts of one law -/
abbrev tCl : Type := Int × Option tPhi × tPhi
abbrev tLaw : Type := Nat × (Nat → tCl)
def tso (t : Option tPhi) (W : Int → Int) : Prop := match t with
  | none => True
  | some f => f W = some 1
noncomputable def clS (c : tCl) (W : Int → Int) : Option Int := @ite _ (tso c.2.1 W) (Classical.propDecidable _) (if c.1 = 0 then c.2.2 W else none) none
noncomputable def lastS (L : tLaw) (W : Int → Int) : Nat → Option Int
  | 0 => none
  | c + 1 => match clS (L.2 c) W with
    | some v => some v
    | none => lastS L W c
def bars (L : tLaw) (W : Int → Int) : Prop := ∃ c, c < L.1 ∧ (L.2 c).1 = 1 ∧ tso (L.2 c).2.1 W
noncomputable def costS (L : Option tLaw) (W : Int → Int) (s : Int) : Int := match L with
  | none => s
  | some L => match lastS L W L.1 with
    | some v => max 0 (min 99 v)
    | none => s
noncomputable def barS (L : Option tLaw) (W : Int → Int) : Int := match L with
  | none => 0
  | some L => bI (bars L W)
/-- it looks only at the words that there are -/
def Loc (f : tPhi) (nw : Int) : Prop := ∀ W W' : Int → Int, (∀ k, 0 ≤ k → k < nw → W' k = W k) → f W' = f W
def ClOk (c : tCl) : Prop := ((c.1 = 0 ∨ c.1 = 1) ∧ (∀ f, c.2.1 = some f → Loc f 9) ∧ (c.1 = 0 → Loc c.2.2 9)) ∧ (∀ f, c.2.1 = some f → Tst f) ∧ (c.1 = 0 → PhOk c.2.2 9)
theorem Loc.num {v nw : Int} : Loc (fun _ => some v) nw := fun _ _ _ => rfl
theorem Loc.word {k nw : Int} (k0 : 0 ≤ k) (k1 : k < nw) : Loc (fun w => some (w k)) nw := fun W W' h => by
  show some (W' k) = some (W k)
  rw [h k k0 k1]
theorem Loc.bin {o nw : Int} {f g : tPhi} (hf : Loc f nw) (hg : Loc g nw) : Loc (pBin o f g) nw := fun W W' h => by
  unfold pBin
  rw [hf W W' h, hg W W' h]
theorem Loc.nt {nw : Int} {f : tPhi} (hf : Loc f nw) : Loc (pNt f) nw := fun W W' h => by
  unfold pNt
  rw [hf W W' h]
theorem Loc.and {nw : Int} {f g : tPhi} (hf : Loc f nw) (hg : Loc g nw) : Loc (pAnd f g) nw := fun W W' h => by
  unfold pAnd
  rw [hf W W' h, hg W W' h]
theorem Loc.or {nw : Int} {f g : tPhi} (hf : Loc f nw) (hg : Loc g nw) : Loc (pOr f g) nw := fun W W' h => by
  unfold pOr
  rw [hf W W' h, hg W W' h]
theorem tso_loc {c : tCl} {W W' : Int → Int} (h : ClOk c) (e : ∀ k, 0 ≤ k → k < 9 → W' k = W k) : tso c.2.1 W' ↔ tso c.2.1 W := by
  unfold tso
  cases q : c.2.1 with
  | none => exact Iff.rfl
  | some f =>
    dsimp only
    rw [h.1.2.1 f q W W' e]
theorem clS_loc {c : tCl} {W W' : Int → Int} (h : ClOk c) (e : ∀ k, 0 ≤ k → k < 9 → W' k = W k) : clS c W' = clS c W := by
  unfold clS
  by_cases q : tso c.2.1 W
  · rw [if_pos q, if_pos ((tso_loc h e).mpr q)]
    split
    · rename_i z
      exact h.1.2.2 z W W' e
    · rfl
  · rw [if_neg q, if_neg (fun z => q ((tso_loc h e).mp z))]
theorem lastS_loc {L : tLaw} {W W' : Int → Int} (h : ∀ c, c < L.1 → ClOk (L.2 c)) (e : ∀ k, 0 ≤ k → k < 9 → W' k = W k) (m : Nat) (hm : m ≤ L.1) : lastS L W' m = lastS L W m := by
  induction m with
  | zero => rfl
  | succ m ih =>
    show (match clS (L.2 m) W' with | some v => some v | none => lastS L W' m) = (match clS (L.2 m) W with | some v => some v | none => lastS L W m)
    rw [clS_loc (h m (by omega)) e, ih (by omega)]
def LwOk (L : Option tLaw) : Prop := ∀ L', L = some L' → ∀ c, c < L'.1 → ClOk (L'.2 c)
theorem costS_loc {L : Option tLaw} {W W' : Int → Int} {s : Int} (h : LwOk L) (e : ∀ k, 0 ≤ k → k < 9 → W' k = W k) : costS L W' s = costS L W s := by
  unfold costS
  cases L with
  | none => rfl
  | some L =>
    dsimp only
    rw [lastS_loc (h L rfl) e L.1 (by omega)]
theorem barS_loc {L : Option tLaw} {W W' : Int → Int} (h : LwOk L) (e : ∀ k, 0 ≤ k → k < 9 → W' k = W k) : barS L W' = barS L W := by
  unfold barS
  cases L with
  | none => rfl
  | some L =>
    dsimp only
    refine bI_iff ⟨fun ⟨c, a, b, d⟩ => ⟨c, a, b, (tso_loc (h L rfl c a) e).mp d⟩, fun ⟨c, a, b, d⟩ => ⟨c, a, b, (tso_loc (h L rfl c a) e).mpr d⟩⟩
theorem costS_rng {L : Option tLaw} {W : Int → Int} {s : Int} (h0 : 0 ≤ s) (h1 : s ≤ 99) : 0 ≤ costS L W s ∧ costS L W s ≤ 99 := by
  unfold costS
  cases L with
  | none => exact ⟨h0, h1⟩
  | some L =>
    dsimp only
    cases lastS L W L.1 with
    | none => exact ⟨h0, h1⟩
    | some v => dsimp only; omega
/-- a test of the class's text -/
def TsC (rows code : Int → Int) (len at_ : Int) (t : Option tPhi) (nw : Int) : Prop := match t with
  | none => rows at_ = -1
  | some f => rows at_ ≠ -1 ∧ Cd code len (rows at_) f nw ∧ Tst f
def TxC (nc : Int) (rows code : Int → Int) (len : Int) (L : tLaw) : Prop := nc = L.1 ∧ L.1 ≤ 12 ∧ ∀ c : Nat, c < L.1 → ClOk (L.2 c) ∧ rows ((c : Int) * 6 + 0) = (L.2 c).1 ∧ TsC rows code len ((c : Int) * 6 + 2) (L.2 c).2.1 9 ∧ ((L.2 c).1 = 0 → Cd code len (rows ((c : Int) * 6 + 3)) (L.2 c).2.2 9)
def gOp (g : Int → Int) : Int → Int := fun k => g (98 + 2 * k)
def gAr (g : Int → Int) : Int → Int := fun k => g (98 + 2 * k + 1)
def TsR (o : Int) (op ar : Int → Int) (a b : Int) (t : Option tPhi) (nw : Int) : Prop := match t with
  | none => b ≤ a
  | some f => (0 ≤ a ∧ a < b ∧ b ≤ 400) ∧ SegR o op ar a b f 60 nw
def TxR (g : Int → Int) (L : tLaw) : Prop := g 1 = L.1 ∧ ∀ c : Nat, c < L.1 → g (2 + 8 * (c : Int)) = (L.2 c).1 ∧ TsR 0 (gOp g) (gAr g) (g (2 + 8 * (c : Int) + 5)) (g (2 + 8 * (c : Int) + 6)) (L.2 c).2.1 9 ∧ ((L.2 c).1 = 0 → (0 ≤ g (2 + 8 * (c : Int) + 3) ∧ g (2 + 8 * (c : Int) + 4) ≤ 400) ∧ SegR 0 (gOp g) (gAr g) (g (2 + 8 * (c : Int) + 3)) (g (2 + 8 * (c : Int) + 4)) (L.2 c).2.2 60 9)
def lawLR : tLR := fun nc rows code len g => ∃ L : tLaw, TxC nc rows code len L ∧ TxR g L
theorem SegR.gcongr {g g' : Int → Int} {a b m nw : Int} {f : tPhi} (e : ∀ j, 0 ≤ j → j < 900 → g' j = g j) (a0 : 0 ≤ a) (b1 : b ≤ 400) (h : SegR 0 (gOp g) (gAr g) a b f m nw) : SegR 0 (gOp g') (gAr g') a b f m nw :=
  h.congr fun k k0 k1 => ⟨e _ (by omega) (by omega), e _ (by omega) (by omega)⟩
theorem TxR.congr {g g' : Int → Int} {L : tLaw} (hn : L.1 ≤ 12) (e : ∀ j, 0 ≤ j → j < 900 → g' j = g j) (h : TxR g L) : TxR g' L := by
  obtain ⟨h1, h2⟩ := h
  refine ⟨(e 1 (by decide) (by decide)).trans h1, fun c hc => ?_⟩
  obtain ⟨q1, q2, q3⟩ := h2 c hc
  rw [e _ (by omega) (by omega), e (2 + 8 * (c : Int) + 5) (by omega) (by omega), e (2 + 8 * (c : Int) + 6) (by omega) (by omega), e (2 + 8 * (c : Int) + 3) (by omega) (by omega), e (2 + 8 * (c : Int) + 4) (by omega) (by omega)]
  refine ⟨q1, ?_, fun z => ⟨(q3 z).1, SegR.gcongr e (q3 z).1.1 (q3 z).1.2 (q3 z).2⟩⟩
  unfold TsR at *
  cases ht : (L.2 c).2.1 with
  | none => rw [ht] at q2; exact q2
  | some f =>
    rw [ht] at q2
    exact ⟨q2.1, SegR.gcongr e q2.1.1 q2.1.2.2 q2.2⟩
theorem lawLOk : LOk lawLR := fun _ _ _ _ _ _ e ⟨L, h1, h2⟩ => ⟨L, h1, h2.congr h1.2.1 e⟩
/-- the class's law at t -/
def LawC (K : Int → Nat × Nat) (F E : Int → Int → Int) (t : Int) (L : tLaw) : Prop := 105 ≤ t ∧ (K t).1 = 9 ∧ 105 ≤ F t 0 ∧ 105 ≤ F t 1 ∧ K (F t 0) = (20, (6 * F t 2).toNat) ∧ K (F t 1) = (20, (F t 3).toNat) ∧ TxC (F t 2) (E (F t 0)) (E (F t 1)) (F t 3) L
theorem lawAt_split {K : Int → Nat × Nat} {F E : Int → Int → Int} {t : Int} {g : Int → Int} (h : LawAt lawLR K F E t g) : ∃ L, LawC K F E t L ∧ TxR g L := by
  obtain ⟨h1, h2, h3, h4, h5, h6, L, h7, h8⟩ := h
  exact ⟨L, ⟨h1, h2, h3, h4, h5, h6, h7⟩, h8⟩
theorem LawC.keep {K : Int → Nat × Nat} {F E F' E' : Int → Int → Int} {t : Int} {L : tLaw} (h : LawC K F E t L) (hF : ∀ a, 105 ≤ a → F' a = F a) (hE : ∀ a, 105 ≤ a → E' a = E a) : LawC K F' E' t L := by
  obtain ⟨h1, h2, h3, h4, h5, h6, h7⟩ := h
  unfold LawC
  rw [hF t h1, hE _ h3, hE _ h4]
  exact ⟨h1, h2, h3, h4, h5, h6, h7⟩
section C
variable {l : Launch} {G : pG} {bg : Nat × Nat} {n : Nat} {K : Int → Nat × Nat} {F E : Int → Int → Int} {Q : Option pV → pM → Prop}
theorem oV_so {f : tPhi} {W : Int → Int} : oV (f W) = 1 ↔ f W = some 1 := by
  cases f W with
  | none => exact ⟨fun z => absurd (show (2000000000 : Int) = 1 from z) (by decide), fun z => by cases z⟩
  | some v => exact ⟨fun z => by rw [show v = 1 from z], fun z => by injection z⟩
theorem c_mIsSo {x0 S t c x3 nw : Int} {ts : Option tPhi} (h3 : (K x0).1 = 4) (h4 : F x0 0 = S) (h5 : K S = (21, 64)) (h6 : 0 ≤ S) (ht : (K t).1 = 9) (hR : (K (F t 0)).1 = 20) (c0 : 0 ≤ c) (c1 : c * 6 + 6 ≤ ((K (F t 0)).2 : Int)) (c2 : c ≤ 12) (hC : (K (F t 1)).1 = 20) (h7 : F t 1 ≠ S) (h8 : x3 ≠ S) (h13 : (K x3).1 = 20) (h14 : ((K x3).2 : Int) = nw) (h15 : WOk (E x3) nw) (hts : TsC (E (F t 0)) (E (F t 1)) ((K (F t 1)).2 : Int) (c * 6 + 2) ts nw)
    (hQ : ∀ E' s, (∀ r, r ≠ S → E' r = E r) → (tso ts (E x3) ∧ s = 1) ∨ (¬ tso ts (E x3) ∧ s = 0) → Q (some (0, s)) (n, K, F, E')) : PC l G 2 mX4_isSo bg [(2, x0), (2, t), (0, c), (2, x3)] (n, K, F, E) Q := by
  refine vX4_isSo_0 x0 t c x3 ⟨ht, by omega, by omega, hR, by omega, fun z => ?_, fun z => ⟨h3, ?_⟩⟩
  · cases ts with
    | none => exact hQ E 1 (fun _ _ => rfl) (Or.inl ⟨trivial, rfl⟩)
    | some f => exact absurd z hts.1
  · cases ts with
    | none => exact absurd hts z
    | some f =>
      refine c_value h3 h4 h5 h6 h7 h8 hC hts.2.1 h13 h14 h15 hts.2.2.ok fun E' r' => ?_
      refine vX4_isSo_25 _ ⟨fun y => hQ E' 0 r' (Or.inr ⟨fun w => y (oV_so.mpr w), rfl⟩), fun y => hQ E' 1 r' (Or.inl ⟨oV_so.mp y, rfl⟩)⟩
theorem txc_len {nc len : Int} {rows code : Int → Int} {L : tLaw} {c : Nat} {at_ : Int} {f : tPhi} (h : Cd code len at_ f 9) : ((len.toNat : Nat) : Int) = len := by
  obtain ⟨b, m, ⟨a0, ab, bl, l1⟩, _⟩ := h
  omega
theorem tsc_len {len : Int} {rows code : Int → Int} {at_ : Int} {t : Option tPhi} (h : TsC rows code len at_ t 9) : TsC rows code ((len.toNat : Nat) : Int) at_ t 9 := by
  unfold TsC at *
  cases t with
  | none => exact h
  | some f => exact ⟨h.1, by rw [txc_len (nc := 0) (rows := rows) (L := (0, fun _ => (0, none, fun _ => none))) (c := 0) h.2.1]; exact h.2.1, h.2.2⟩
theorem cd_len {len : Int} {code : Int → Int} {at_ : Int} {f : tPhi} (h : Cd code len at_ f 9) : Cd code ((len.toNat : Nat) : Int) at_ f 9 := by
  rw [txc_len (nc := 0) (rows := code) (L := (0, fun _ => (0, none, fun _ => none))) (c := 0) h]; exact h
/-- the words while it is looked whether a tuple is barred -/
def wBar (w : Int → Int) : Int → Int := rUp (rUp (rUp (rUp w 1 (-1)) 5 (-1)) 0 (-1)) 6 (-1)
def wCost (w : Int → Int) (o s t d : Int) : Int → Int := rUp (rUp (rUp (rUp w 1 o) 5 s) 0 t) 6 d
theorem c_isBarred_31 {L : tLaw} (hK : KS K) (hF : FS F) (m : Nat) : ∀ (c : Nat) (E : Int → Int → Int), LawC K F E (F 30 3) L → WOk (E 33) 9 → c + m = L.1 → (∀ c', c' < c → ¬ ((L.2 c').1 = 1 ∧ tso (L.2 c').2.1 (E 33))) → (∀ E' s, (∀ r, r ≠ 32 → E' r = E r) → s = bI (bars L (E 33)) → Q (some (0, s)) (n, K, F, E')) → PW l G 3 mX6_isBarred bg 31 [(0, (2, 30)), (1, (0, (c : Int)))] [] (n, K, F, E) Q := by
  induction m with
  | zero =>
    intro c E hl hw e hb hQ
    obtain ⟨h1, h2, h3, h4, h5, h6, t1, t2, t3⟩ := hl
    refine vX6_isBarred_31 30 c ?_
    simp only [hK.k30]
    refine ⟨trivial, fun z => absurd z (by omega), fun _ => ⟨h2, fun _ => hQ E 0 (fun _ _ => rfl) ?_, fun z => absurd (by omega) z⟩⟩
    rw [bI_no]
    rintro ⟨c', q1, q2⟩
    exact hb c' (by omega) q2
  | succ m ih =>
    intro c E hl hw e hb hQ
    have hl' := hl
    obtain ⟨h1, h2, h3, h4, h5, h6, t1, t2, t3⟩ := hl'
    obtain ⟨u1, u2, u3, u4⟩ := t3 c (by omega)
    refine vX6_isBarred_31 30 c ?_
    simp only [hF.f30_0, hF.f30_1, hK.k30, hK.k31, h5]
    refine ⟨trivial, fun z => absurd z (by omega), fun _ => ⟨h2, fun z => absurd z (by omega), fun _ => ⟨by omega, by omega, trivial, by omega, fun z => ⟨by omega, ?_⟩, fun z => ⟨trivial, ?_⟩⟩⟩⟩
    · refine ih (c + 1) E hl hw (by omega) (fun c' hc' => ?_) hQ
      by_cases q : c' = c
      · rw [q]
        intro y
        exact z (by rw [u2]; exact y.1)
      · exact hb c' (by omega)
    · refine c_mIsSo (S := 32) (ts := (L.2 c).2.1) (nw := 9) (by rw [hK.k31]) hF.f31_0 hK.k32 (by decide) h2 (by rw [h5]) (by omega) (by rw [h5]; omega) (by omega) (by rw [h6]) (by omega) (by decide) (by rw [hK.k33]) (by rw [hK.k33]; rfl) hw (by rw [h6]; exact tsc_len u3) fun E' s r' hs => ?_
      refine vX6_isBarred_78 30 c s ⟨fun y => ⟨by omega, ?_⟩, fun y => ?_⟩
      · have r33 : E' 33 = E 33 := r' 33 (by decide)
        refine ih (c + 1) E' (hl.keep (fun _ _ => rfl) (fun a ha => r' a (by omega))) (by rw [r33]; exact hw) (by omega) (fun c' hc' => ?_) (fun E2 s2 r2 hs2 => ?_)
        · rw [r33]
          by_cases q : c' = c
          · rw [q]
            rcases hs with hs | hs
            · omega
            · exact fun y => hs.1 y.2
          · exact hb c' (by omega)
        · rw [r33] at hs2
          exact hQ E2 s2 (fun r hr => by rw [r2 r hr, r' r hr]) hs2
      · rcases hs with hs | hs
        · refine hQ E' 1 r' ?_
          rw [bI_of ⟨c, by omega, by rw [← u2]; exact z, hs.1⟩]
        · omega
theorem c_isBarred {L : Option tLaw} (hK : KS K) (hF : FS F) (hl : (L = none ∧ F 30 3 = -1) ∨ ∃ L', L = some L' ∧ LawC K F E (F 30 3) L') (hw : WOk (wBar (E 33)) 9) (hQ : ∀ E', (∀ r, r ≠ 32 → r ≠ 33 → E' r = E r) → E' 33 = wBar (E 33) → Q (some (0, barS L (wBar (E 33)))) (n, K, F, E')) : PC l G 3 mX6_isBarred bg [(2, 30)] (n, K, F, E) Q := by
  refine vX6_isBarred_0 30 ?_
  simp only [hF.f30_1, hK.k30, hK.k33]
  refine ⟨trivial, by decide, trivial, by decide, fun E1 e1 => ⟨by decide, fun E2 e2 => ⟨by decide, fun E3 e3 => ⟨by decide, fun E4 e4 => ?_⟩⟩⟩⟩
  have q4 : E4 = pRow E 33 (wBar (E 33)) := by
    subst e4 e3 e2 e1
    simp only [pUp_row, pRow_row, pRow_at]
    rfl
  clear e1 e2 e3 e4
  subst q4
  rcases hl with ⟨eL, e3⟩ | ⟨L', eL, hl⟩
  · refine vX6_isBarred_31 30 0 ⟨by rw [hK.k30], fun _ => ?_, fun z => absurd e3 z⟩
    have q := hQ (pRow E 33 (wBar (E 33))) (fun r _ h => pRow_ne h) pRow_at
    rw [eL] at q
    exact q
  · refine c_isBarred_31 hK hF L'.1 0 _ (hl.keep (fun _ _ => rfl) (fun a ha => pRow_ne (by omega))) (by rw [pRow_at]; exact hw) (by omega) (fun c' hc' => absurd hc' (by omega)) (fun E' s r' hs => ?_)
    rw [pRow_at] at hs
    have q := hQ E' (fun r h1 h2 => by rw [r' r h1, pRow_ne h2]) (by rw [r' 33 (by decide), pRow_at])
    rw [eL] at q
    rw [hs]
    exact q
theorem c_costOf_56 {L : tLaw} {s : Int} (hK : KS K) (hF : FS F) (m : Nat) : ∀ (E : Int → Int → Int), LawC K F E (F 30 3) L → WOk (E 33) 9 → m ≤ L.1 → (∀ E' v, (∀ r, r ≠ 32 → E' r = E r) → (v = match lastS L (E 33) m with
    | some v => max 0 (min 99 v)
    | none => s) → Q (some (0, v)) (n, K, F, E')) → PW l G 3 mX6_costOf bg 56 [(0, (2, 30)), (2, (0, s)), (4, (0, (m : Int) - 1))] [] (n, K, F, E) Q := by
  induction m with
  | zero =>
    intro E hl hw e hQ
    exact vX6_costOf_56 30 s _ ⟨fun _ => hQ E s (fun _ _ => rfl) rfl, fun z => absurd (by omega) z⟩
  | succ m ih =>
    intro E hl hw e hQ
    have hl' := hl
    obtain ⟨h1, h2, h3, h4, h5, h6, t1, t2, t3⟩ := hl'
    obtain ⟨u1, u2, u3, u4⟩ := t3 m (by omega)
    rw [show ((m + 1 : Nat) : Int) - 1 = m by omega]
    have go : ∀ E', (∀ r, r ≠ 32 → E' r = E r) → clS (L.2 m) (E 33) = none → PW l G 3 mX6_costOf bg 56 [(0, (2, 30)), (2, (0, s)), (4, (0, (m : Int) + (-1)))] [] (n, K, F, E') Q := fun E' r' hn => by
      have r33 : E' 33 = E 33 := r' 33 (by decide)
      refine ih E' (hl.keep (fun _ _ => rfl) (fun a ha => r' a (by omega))) (by rw [r33]; exact hw) (by omega) (fun E2 v r2 ev => ?_)
      refine hQ E2 v (fun r hr => by rw [r2 r hr, r' r hr]) ?_
      rw [r33] at ev
      rw [ev]
      show _ = match (match clS (L.2 m) (E 33) with
        | some v => some v
        | none => lastS L (E 33) m) with
        | some v => max 0 (min 99 v)
        | none => s
      rw [hn]
    refine vX6_costOf_56 30 s m ⟨fun z => absurd z (by omega), fun _ => ?_⟩
    simp only [hF.f30_0, hF.f30_1, hK.k30, hK.k31, h5]
    refine ⟨trivial, h2, by omega, by omega, trivial, by omega, fun z => ⟨by omega, go E (fun _ _ => rfl) ?_⟩, fun z => ⟨trivial, ?_⟩⟩
    · unfold clS
      rw [u2] at z
      rw [if_neg z]
      split <;> rfl
    · refine c_mIsSo (S := 32) (ts := (L.2 m).2.1) (nw := 9) (by rw [hK.k31]) hF.f31_0 hK.k32 (by decide) h2 (by rw [h5]) (by omega) (by rw [h5]; omega) (by omega) (by rw [h6]) (by omega) (by decide) (by rw [hK.k33]) (by rw [hK.k33]; rfl) hw (by rw [h6]; exact tsc_len u3) fun E' s' r' hs => ?_
      rw [u2] at z
      refine vX6_costOf_91 30 s m s' ⟨fun y => ⟨by omega, go E' r' ?_⟩, fun y => ?_⟩
      · rcases hs with hs | hs
        · omega
        · unfold clS
          rw [if_neg hs.1]
      · rcases hs with hs | hs
        · simp only [hF.f30_0, hF.f30_1, hK.k30, hK.k31, h5]
          refine ⟨trivial, h2, by omega, by omega, trivial, by omega, trivial, ?_⟩
          have r33 : E' 33 = E 33 := r' 33 (by decide)
          have ra : E' (F (F 30 3) 0) = E (F (F 30 3) 0) := r' _ (by omega)
          have rb : E' (F (F 30 3) 1) = E (F (F 30 3) 1) := r' _ (by omega)
          rw [ra]
          have so : clS (L.2 m) (E 33) = (L.2 m).2.2 (E 33) := by
            unfold clS
            rw [if_pos hs.1, if_pos z]
          refine c_value (S := 32) (f := (L.2 m).2.2) (nw := 9) (by rw [hK.k31]) hF.f31_0 hK.k32 (by decide) (by omega) (by decide) (by rw [h6]) (by rw [h6, rb]; exact cd_len (u4 z)) (by rw [hK.k33]) (by rw [hK.k33]; rfl) (by rw [r33]; exact hw) (u1.2.2 z) fun E2 r2 => ?_
          rw [r33]
          have r12 : ∀ r, r ≠ 32 → E2 r = E r := fun r hr => by rw [r2 r hr, r' r hr]
          refine vX6_costOf_122 30 s m _ ⟨fun w => ⟨by omega, go E2 r12 ?_⟩, fun w => ?_⟩
          · rw [so]
            cases q : (L.2 m).2.2 (E 33) with
            | none => rfl
            | some v =>
              rw [q] at w
              have := u1.2.2 z _ v hw q
              exact absurd (show v = 2000000000 from w) (by omega)
          · cases q : (L.2 m).2.2 (E 33) with
            | none =>
              rw [q] at w
              exact absurd rfl w
            | some v =>
              refine ⟨by omega, hQ E2 _ r12 ?_⟩
              show max 0 (min 99 v) = match (match clS (L.2 m) (E 33) with
                | some v => some v
                | none => lastS L (E 33) m) with
                | some v => max 0 (min 99 v)
                | none => s
              rw [so, q]
        · omega
/-- what an operator costs -/
theorem c_costOf {L : Option tLaw} {o s d : Int} (hK : KS K) (hF : FS F) (o0 : 0 ≤ o) (o1 : o < 4) (hl : (L = none ∧ F 30 3 = -1) ∨ ∃ L', L = some L' ∧ LawC K F E (F 30 3) L') (hw : WOk (wCost (E 33) o s (E 38 o) d) 9) (hQ : ∀ E', (∀ r, r ≠ 32 → r ≠ 33 → E' r = E r) → E' 33 = wCost (E 33) o s (E 38 o) d → Q (some (0, costS L (wCost (E 33) o s (E 38 o) d) s)) (n, K, F, E')) : PC l G 3 mX6_costOf bg [(2, 30), (0, o), (0, s), (0, d)] (n, K, F, E) Q := by
  refine vX6_costOf_0 30 o s d ?_
  simp only [hF.f30_1, hF.f30_9, hK.k30, hK.k33, hK.k38]
  refine ⟨trivial, by decide, trivial, by decide, fun E1 e1 => ⟨by decide, fun E2 e2 => ⟨trivial, by omega, by decide, fun E3 e3 => ⟨by decide, fun E4 e4 => ?_⟩⟩⟩⟩
  have q4 : E4 = pRow E 33 (wCost (E 33) o s (E 38 o) d) := by
    rw [e4, e3, e2, e1]
    rw [pUp_a (show (38 : Int) ≠ 33 by decide), pUp_a (show (38 : Int) ≠ 33 by decide)]
    simp only [pUp_row, pRow_row, pRow_at]
    rfl
  clear e1 e2 e3 e4
  subst q4
  rcases hl with ⟨eL, e3⟩ | ⟨L', eL, hl⟩
  · refine ⟨fun z => absurd e3 z, fun _ => vX6_costOf_56 30 s (-1) ⟨fun _ => ?_, fun z => absurd (by decide) z⟩⟩
    have q := hQ (pRow E 33 (wCost (E 33) o s (E 38 o) d)) (fun r _ h => pRow_ne h) pRow_at
    rw [eL] at q
    exact q
  · have hl' := hl
    obtain ⟨h1, h2, h3, h4, h5, h6, t1, t2, t3⟩ := hl'
    refine ⟨fun _ => ⟨h2, by omega, ?_⟩, fun z => absurd z (by omega)⟩
    rw [t1]
    refine c_costOf_56 (L := L') hK hF L'.1 _ (hl.keep (fun _ _ => rfl) (fun a ha => pRow_ne (by omega))) (by rw [pRow_at]; exact hw) (by omega) (fun E' v r' ev => ?_)
    rw [pRow_at] at ev
    have q := hQ E' (fun r h1 h2 => by rw [r' r h1, pRow_ne h2]) (by rw [r' 33 (by decide), pRow_at])
    rw [eL] at q
    rw [ev]
    exact q
end C
