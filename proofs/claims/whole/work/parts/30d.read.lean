/-! A TEXT in the class -/
def kwG (w : Int) : List Int → Int → Int
  | [], _ => 258
  | b :: R, c => if w = b then c else kwG w R (c + 1)
theorem kwF_map {w : Int} (R : List (Int × Int)) : ∀ c, kwF w R c = kwG w (R.map wE) c := by
  induction R with
  | nil => intro c; rfl
  | cons b R ih =>
    intro c
    show (if w = wE b then c else kwF w R (c + 1)) = (if w = wE b then c else kwG w (R.map wE) (c + 1))
    rw [ih]
theorem kwW_eq {w : Int} : kwW w = kwG w wKs 259 := by
  unfold kwW
  rw [kwF_map, wKs_eq]
theorem kwG_get {w : Int} (L : List Int) : ∀ c : Int, kwG w L c = 258 ∨ ∃ i : Nat, i < L.length ∧ kwG w L c = c + i ∧ L[i]? = some w := by
  induction L with
  | nil => intro c; exact Or.inl rfl
  | cons b R ih =>
    intro c
    by_cases z : w = b
    · refine Or.inr ⟨0, Nat.zero_lt_succ _, ?_, by rw [z]; rfl⟩
      show (if w = b then c else kwG w R (c + 1)) = c + ((0 : Nat) : Int)
      rw [if_pos z]; omega
    · have e : kwG w (b :: R) c = kwG w R (c + 1) := if_neg z
      rw [e]
      rcases ih (c + 1) with q | ⟨i, i1, i2, i3⟩
      · exact Or.inl q
      · exact Or.inr ⟨i + 1, Nat.succ_lt_succ i1, by rw [i2]; omega, i3⟩
theorem kwW_rng {w : Int} : 258 ≤ kwW w ∧ kwW w ≤ 285 := by
  rw [kwW_eq]
  rcases kwG_get (w := w) wKs 259 with q | ⟨i, i1, i2, _⟩
  · omega
  · have : wKs.length = 27 := by decide
    omega
theorem kw_back : ((List.range 27).all fun i => match wKs[i]? with | some v => decide (kwG v wKs 259 = 259 + (i : Int)) | none => false) = true := by decide +kernel
theorem kw_get {w v : Int} (i : Nat) (i27 : i < 27) (h : wKs[i]? = some v) : kwW w = 259 + (i : Int) ↔ w = v := by
  rw [kwW_eq]
  refine ⟨fun q => ?_, fun q => ?_⟩
  · rcases kwG_get (w := w) wKs 259 with r | ⟨j, j1, j2, j3⟩
    · omega
    · have : j = i := by omega
      rw [this, h] at j3
      injection j3 with j3
      exact j3.symm
  · have z := List.all_eq_true.mp kw_back i (List.mem_range.mpr i27)
    rw [h] at z
    rw [q]
    exact of_decide_eq_true z
theorem dgN_pos {tp : Int → Int} (k : Nat) : ∀ (p x : Int), 0 ≤ x → (∀ q, p ≤ q → q < p + k → 48 ≤ tp q) → 0 ≤ dgN tp k p x := by
  induction k with
  | zero => intro p x h _; exact h
  | succ k ih =>
    intro p x h hq
    refine ih (p + 1) _ ?_ (fun q q0 q1 => hq q (by omega) (by omega))
    have := hq p (by omega) (by omega)
    split <;> omega
theorem tkW_dig {tp : Int → Int} {len f : Int} (h : tkSort tp len f = 2) : 0 ≤ tkW tp len f := by
  have e : tkW tp len f = dgN tp (tkTo tp len f - f).toNat f 0 := by unfold tkW; rw [if_neg (by omega), if_neg (by omega), if_pos h]
  have e2 : tkTo tp len f = run 48 58 tp len (len - f).toNat f := by unfold tkTo; rw [if_neg (by omega), if_neg (by omega), if_pos h]
  rw [e]
  refine dgN_pos _ f 0 (by decide) fun q q0 q1 => ?_
  rw [e2] at q1
  exact (run_in (lo := 48) (hi := 58) (tp := tp) (len := len) (len - f).toNat f q q0 (by omega)).1
theorem tkNum_rng {tp : Int → Int} {len f : Int} : 0 ≤ tkNum tp len f ∧ tkNum tp len f ≤ 1001 := by
  unfold tkNum
  split
  · have := tkW_dig (by assumption : tkSort tp len f = 2)
    omega
  · omega
theorem tkKind_rng {tp : Int → Int} {len f : Int} (h : f ≠ len → 0 ≤ tp f ∧ tp f < 256) : 0 ≤ tkKind tp len f ∧ tkKind tp len f ≤ 300 := by
  have k := kwW_rng (w := tkW tp len f)
  unfold tkKind
  split
  · omega
  · split
    · omega
    · split
      · omega
      · have : f ≠ len := by
          intro z
          have : tkSort tp len f = 0 := by unfold tkSort; rw [if_pos z]
          omega
        have := h this
        omega
/-- the frame of reading -/
def FrRd (F E F' E' : Int → Int → Int) : Prop := (∀ r, r ≠ 24 → r ≠ 25 → r ≠ 26 → r ≠ 28 → r ≠ 29 → E' r = E r) ∧ FS F' ∧ (∀ a k, ¬ (a = 20 ∧ 2 ≤ k ∧ k ≤ 4) → ¬ (a = 27 ∧ (k = 2 ∨ k = 3)) → F' a k = F a k)
section C
variable {l : Launch} {G : pG} {bg : Nat × Nat} {n : Nat} {K : Int → Nat × Nat} {Q : Option pV → pM → Prop} {lw : Bool} {T : Int}
theorem c_read_40 (m : Nat) : ∀ (c : Nat) (t p : Int) (F E : Int → Int → Int) (C : Nat → tKl), c + m = 12 → PreX lw T t p K F E → F 27 2 = c → (∀ s, 0 ≤ s → s ≤ T → 0 ≤ E 24 s ∧ E 24 s ≤ 300) → (∀ c' : Nat, c' < c → KlC lw (E 28) (E 29) (F 27 3) c' (C c')) →
    (∀ F' E' t' C' N, (∀ c', c' < c → C' c' = C c') → FrX F E F' E' → 0 ≤ t' → t' ≤ T → TxG lw (E 24) (E 26) m c t p false t' C' N → Q (some (0, E 25 t')) (n, K, F', E')) →
    (∀ F' E' t' C' N, (∀ c', c' < c → C' c' = C c') → FrX F E F' E' → 0 ≤ t' → t' ≤ T → TxG lw (E 24) (E 26) m c t p true t' C' N → F' 27 2 = (N : Int) → N ≤ 12 → (0 ≤ F' 27 3 ∧ F' 27 3 ≤ 800) → (∀ c' : Nat, c' < N → KlC lw (E' 28) (E' 29) (F' 27 3) c' (C' c')) → Q (some (0, -1)) (n, K, F', E')) →
    PW l G 82 mX5_read bg 40 [(0, (2, 20)), (2, (0, (c : Int)))] [] (n, K, F, E) Q := by
  induction m with
  | zero =>
    intro c t p F E C e h h2 hk hC hQ0 hQ1
    obtain ⟨⟨hK, hF⟩, g2, ⟨g4, t0, t1, T1⟩, _⟩ := id h
    refine vX5_read_40 20 c ⟨fun _ => ?_, fun z => absurd z (by omega)⟩
    simp only [hF.f20_0, hF.f21_2, hK.k20, hK.k21, hK.k25, g4]
    exact ⟨trivial, trivial, trivial, by omega, hQ0 F E t C 0 (fun _ _ => rfl) (FrX.refl hF) t0 t1 ⟨rfl, rfl⟩⟩
  | succ m ih =>
    intro c t p F E C e h h2 hk hC hQ0 hQ1
    obtain ⟨⟨hK, hF⟩, g2, ⟨g4, t0, t1, T1⟩, _⟩ := id h
    refine vX5_read_40 20 c ⟨fun z => absurd z (by omega), fun _ => ⟨by rw [hK.k20], c_readClause h (hk t t0 t1) h2 (by omega) (by omega) (fun F1 E1 u p1 x w b4 b1 b2 g => ?_) (fun F1 E1 u p1 x w e2 e28 kl px tu g => ?_)⟩⟩
    · have hF1 := w.2.1
      refine vX5_read_50 20 c 0 ⟨fun y => absurd rfl y, fun _ => ?_⟩
      simp only [hF1.f20_0, hF1.f21_2, hK.k20, hK.k21, hK.k25, b4, w.e.2.2]
      exact ⟨trivial, trivial, trivial, by omega, hQ0 F1 E1 u C 0 (fun _ _ => rfl) w (by omega) b2 (Or.inl ⟨rfl, p1, x, g⟩)⟩
    · have hF1 := w.2.1
      obtain ⟨_, _, ⟨b4, u0, uT, _⟩, ⟨b3, q0, q1⟩, _, l0, l1⟩ := id px
      have kl' : ∀ C' : Nat → tKl, (∀ c', c' < c → C' c' = C c') → C' c = x → ∀ c' : Nat, c' < c + 1 → KlC lw (E1 28) (E1 29) (F1 27 3) c' (C' c') := by
        intro C' a1 a2 c' hc
        by_cases q : c' = c
        · subst q; rw [a2]; exact kl
        · rw [a1 c' (by omega)]
          exact (hC c' (by omega)).grow (fun j j0 j1 => e28 j (by omega)) w.2.2.2.1 w.2.2.2.2 (by omega)
      have e0 : (fun c' => if c' = c then x else C c') c = x := if_pos rfl
      have e1 : ∀ c', c' < c → (fun c' => if c' = c then x else C c') c' = C c' := fun c' hc => if_neg (by omega)
      refine vX5_read_50 20 c 1 ⟨fun _ => ?_, fun y => absurd y (by decide)⟩
      simp only [hF1.f20_0, hF1.f21_1, hK.k20, hK.k21, hK.k24, b4, w.e.1]
      refine ⟨trivial, trivial, trivial, by omega, fun y => c_skipX px (by decide) (fun z => ?_) (fun z => ?_), fun y => ?_⟩
      · rw [w.e.1] at z
        refine vX5_read_84 20 c 0 ⟨fun v => absurd rfl v, fun _ => ?_⟩
        simp only [hF1.f20_0, hF1.f21_2, hK.k20, hK.k21, hK.k25, b4, w.e.2.2]
        exact ⟨trivial, trivial, trivial, by omega, hQ0 F1 E1 u _ 0 e1 w u0 uT (Or.inr ⟨u, p1, by rw [e0]; exact g, Or.inr (Or.inl ⟨y, z, rfl, rfl⟩)⟩)⟩
      · rw [w.e.1] at z
        have ul : u < T := px.lt (by rw [w.e.1]; omega)
        refine vX5_read_84 20 c 1 ⟨fun _ => ⟨by omega, ?_⟩, fun v => absurd v (by decide)⟩
        have al : pUp F1 20 4 (u + 1) 27 3 = F1 27 3 := by rw [pUp_a (by decide)]
        have w2 := (FrX.refl (E := E1) hF1).at (k := 4) (v := u + 1) (Or.inr rfl)
        have px2 := px.next w2 pUp_s (by rw [pUp_k (by decide)]; exact b3) (by omega) ⟨q0, q1⟩ (by omega)
        have z2 := ih (c + 1) (u + 1) p1 (pUp F1 20 4 (u + 1)) E1 (fun c' => if c' = c then x else C c') (by omega) px2 (by rw [pUp_a (by decide), e2]; omega) (by rw [w.e.1]; exact hk) (by rw [al]; exact kl' _ e1 e0) (fun F' E' t' C' N a w' t0' t1' g' => ?_) (fun F' E' t' C' N a w' t0' t1' g' n1 n2 n3 n4 => ?_)
        · exact z2
        · rw [w.e.1, w.e.2.1] at g'
          rw [w.e.2.2]
          have ac : C' c = x := (a c (by omega)).trans e0
          exact hQ0 F' E' t' C' N (fun c' hc => (a c' (by omega)).trans (e1 c' hc)) ((w.trans w2).trans w') t0' t1' (Or.inr ⟨u, p1, by rw [ac]; exact g, Or.inr (Or.inr ⟨z, g'⟩)⟩)
        · rw [w.e.1, w.e.2.1] at g'
          have ac : C' c = x := (a c (by omega)).trans e0
          exact hQ1 F' E' t' C' N (fun c' hc => (a c' (by omega)).trans (e1 c' hc)) ((w.trans w2).trans w') t0' t1' (Or.inr ⟨u, p1, by rw [ac]; exact g, Or.inr (Or.inr ⟨z, g'⟩)⟩) n1 n2 n3 n4
      · exact hQ1 F1 E1 u _ (c + 1) e1 w u0 uT (Or.inr ⟨u, p1, by rw [e0]; exact g, Or.inl ⟨y, rfl, rfl, rfl⟩⟩) (by rw [e2]; omega) (by omega) (by omega) (kl' _ e1 e0)
/-- the class's reader -/
theorem c_read {F E : Int → Int → Int} {tp : Int → Int} {len : Int} (hK : KS K) (hF : FS F) (hlen : 0 ≤ len ∧ len ≤ 400) (h22 : F 22 1 = len) (hj : ∀ j, 0 ≤ j → j < len → bAnd (E 23 j) 255 = tp j) (hb : ∀ j, 0 ≤ j → j < len → 0 ≤ tp j ∧ tp j < 256)
    (hQ0 : ∀ F' E' (T : Nat) (t' : Int) C N, FrRd F E F' E' → TkC tp len T E' → 0 ≤ t' → t' ≤ T → TxG lw (E' 24) (E' 26) 12 0 0 0 false t' C N → Q (some (0, tkB tp len t'.toNat)) (n, K, F', E'))
    (hQ1 : ∀ F' E' (T : Nat) (t' : Int) C N, FrRd F E F' E' → TkC tp len T E' → 0 ≤ t' → t' ≤ T → TxG lw (E' 24) (E' 26) 12 0 0 0 true t' C N → F' 27 2 = (N : Int) → N ≤ 12 → (0 ≤ F' 27 3 ∧ F' 27 3 ≤ 800) → (∀ c' : Nat, c' < N → KlC lw (E' 28) (E' 29) (F' 27 3) c' (C c')) → Q (some (0, -1)) (n, K, F', E')) : PC l G 82 mX5_read bg [(2, 20), (0, if lw = true then 1 else 0)] (n, K, F, E) Q := by
  refine vX5_read_0 20 _ ?_
  simp only [hF.f20_0, hF.f20_1, hK.k20, hK.k21, hK.k27]
  refine ⟨trivial, by split <;> omega, fun F1 f1 F2 f2 F3 f3 => ⟨trivial, fun F4 f4 F5 f5 => ⟨trivial, ?_⟩⟩⟩
  have hF5 : FS F5 := by rw [f5, f4, f3, f2, f1]; exact ((((hF.up (by decide)).up (by decide)).up (by decide)).up (by decide)).up (by decide)
  have k5 : ∀ a k, ¬ (a = 20 ∧ 2 ≤ k ∧ k ≤ 4) → ¬ (a = 27 ∧ (k = 2 ∨ k = 3)) → F5 a k = F a k := by
    intro a k q1 q2
    rw [f5, f4, f3, f2, f1]
    unfold pUp
    rw [if_neg (by omega), if_neg (by omega), if_neg (by omega), if_neg (by omega), if_neg (by omega)]
  have m2 : F5 20 2 = if lw = true then 1 else 0 := by rw [f5, f4, f3, f2, f1, pUp_a (by decide), pUp_a (by decide), pUp_k (by decide), pUp_k (by decide), pUp_s]
  have m3 : F5 20 3 = 0 := by rw [f5, f4, f3, f2, pUp_a (by decide), pUp_a (by decide), pUp_k (by decide), pUp_s]
  have m4 : F5 20 4 = 0 := by rw [f5, f4, f3, pUp_a (by decide), pUp_a (by decide), pUp_s]
  have n2 : F5 27 2 = 0 := by rw [f5, f4, pUp_k (by decide), pUp_s]
  have n3 : F5 27 3 = 0 := by rw [f5, pUp_s]
  refine c_readAll hK hF5 hlen (by rw [k5 22 1 (by omega) (by omega)]; exact h22) hj fun E1 T r1 tk => vX5_read_38 20 ?_
  obtain ⟨tk1, tk2, tk3, tk4, tk5⟩ := id tk
  have kT : E1 24 T = 256 := by
    rw [(tk4 T (Nat.le_refl T)).1, tk1]
    unfold tkKind
    rw [if_pos (by unfold tkSort; rw [if_pos rfl])]
  have kn : ∀ s : Int, 0 ≤ s → s < T → 0 ≤ E1 26 s ∧ E1 26 s ≤ 1001 := by
    intro s s0 s1
    have q := tk5 s.toNat (by omega)
    rw [show ((s.toNat : Nat) : Int) = s by omega] at q
    rw [q]
    exact tkNum_rng
  have kk : ∀ s : Int, 0 ≤ s → s ≤ T → 0 ≤ E1 24 s ∧ E1 24 s ≤ 300 := by
    intro s s0 s1
    have q := (tk4 s.toNat (by omega)).1
    rw [show ((s.toNat : Nat) : Int) = s by omega] at q
    rw [q]
    have r := tkP_rng hlen.1 tk3 s.toNat (by omega)
    have r2 := at_rng (tp := tp) r.2
    refine tkKind_rng fun z => hb _ ?_ ?_
    · show 0 ≤ tkAt tp len (tkP tp len s.toNat); omega
    · have : tkB tp len s.toNat ≤ len := r2.2
      omega
  have fz : ∀ F' E', FrX F5 E1 F' E' → FrRd F E F' E' := fun F' E' w => ⟨fun r a b c d e => (w.1 r d e).trans (r1 r a b c), w.2.1, fun a k q1 q2 => (w.2.2.1 a k (by omega) q2).trans (k5 a k q1 q2)⟩
  have tz : ∀ F' E', FrX F5 E1 F' E' → TkC tp len T E' := fun F' E' w => by
    unfold TkC
    rw [w.e.1, w.e.2.1, w.e.2.2]
    exact tk
  refine c_read_40 12 0 0 0 F5 E1 (fun _ => (0, 0, none, fun _ => pZ)) (by decide) ⟨⟨hK, hF5⟩, m2, ⟨m4, by decide, by omega, by omega⟩, ⟨m3, by decide, by decide⟩, ⟨kT, kn⟩, by omega, by omega⟩ n2 kk (fun c' h => absurd h (by omega)) (fun F' E' t' C' N _ w t0 t1 g => ?_) (fun F' E' t' C' N _ w t0 t1 g a1 a2 a3 a4 => ?_)
  · have q := (tk4 t'.toNat (by omega)).2
    rw [show ((t'.toNat : Nat) : Int) = t' by omega] at q
    rw [q]
    exact hQ0 F' E' T t' C' N (fz F' E' w) (tz F' E' w) t0 t1 (by rw [w.e.1, w.e.2.1]; exact g)
  · exact hQ1 F' E' T t' C' N (fz F' E' w) (tz F' E' w) t0 t1 (by rw [w.e.1, w.e.2.1]; exact g) a1 a2 a3 a4
end C
