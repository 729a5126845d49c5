/-! THE REFERENCE READS: the token that it stands at, by the class's kinds -/
def TkE (tp : Int → Int) (len : Int) (T : Nat) (kd nm : Int → Int) : Prop := (0 ≤ len ∧ len ≤ 400) ∧ (∀ j, 0 ≤ j → j < len → 0 ≤ tp j ∧ tp j < 256) ∧ (tkB tp len T = len ∧ (T : Int) ≤ len) ∧ (∀ s : Nat, s < T → tkB tp len s < len) ∧ (∀ s : Nat, s ≤ T → kd s = tkKind tp len (tkB tp len s)) ∧ ∀ s : Nat, s < T → nm s = tkNum tp len (tkB tp len s)
def tB (tp : Int → Int) (len t : Int) : Int := tkB tp len t.toNat
def AtT (tp : Int → Int) (len : Int) (F : Int → Int → Int) (t : Int) : Prop := F 66 14 = tB tp len t ∧ F 66 15 = tkTo tp len (tB tp len t) ∧ F 66 16 = tkSort tp len (tB tp len t) ∧ F 66 17 = tkW tp len (tB tp len t) ∧ F 66 18 = -1
section C
variable {tp : Int → Int} {len : Int} {T : Nat} {kd nm : Int → Int} {F : Int → Int → Int} {t : Int}
theorem TkE.kde (h : TkE tp len T kd nm) (t0 : 0 ≤ t) (t1 : t ≤ T) : kd t = tkKind tp len (tB tp len t) := by
  have q := h.2.2.2.2.1 t.toNat (by omega)
  rw [show ((t.toNat : Nat) : Int) = t by omega] at q
  exact q
theorem TkE.nme (h : TkE tp len T kd nm) (t0 : 0 ≤ t) (t1 : t < T) : nm t = tkNum tp len (tB tp len t) := by
  have q := h.2.2.2.2.2 t.toNat (by omega)
  rw [show ((t.toNat : Nat) : Int) = t by omega] at q
  exact q
theorem TkE.rng (h : TkE tp len T kd nm) (t0 : 0 ≤ t) (t1 : t ≤ T) : 0 ≤ tB tp len t ∧ tB tp len t ≤ len ∧ (t < T → tB tp len t < len) ∧ (t = T → tB tp len t = len) := by
  obtain ⟨⟨h0, _⟩, _, ⟨hT, _⟩, hl, _⟩ := h
  have r := tkP_rng h0 hl t.toNat (by omega)
  have r2 := at_rng (tp := tp) r.2
  refine ⟨?_, r2.2, fun z => hl t.toNat (by omega), fun z => ?_⟩
  · show 0 ≤ tkAt tp len (tkP tp len t.toNat); omega
  · unfold tB; rw [show t.toNat = T by omega]; exact hT
theorem TkE.fin (h : TkE tp len T kd nm) : kd T = 256 := by
  rw [h.kde (by omega) (Int.le_refl _), (h.rng (by omega) (Int.le_refl _)).2.2.2 rfl]
  unfold tkKind
  rw [if_pos (by unfold tkSort; rw [if_pos rfl])]
theorem TkE.lt (h : TkE tp len T kd nm) (t1 : t ≤ T) (z : kd t ≠ 256) : t < T := by
  by_cases q : t = T
  · rw [q] at z; exact absurd h.fin z
  · omega
theorem TkE.cases (h : TkE tp len T kd nm) (t0 : 0 ≤ t) (t1 : t ≤ T) : (tkSort tp len (tB tp len t) = 0 ∧ kd t = 256) ∨ (tkSort tp len (tB tp len t) = 1 ∧ kd t = kwW (tkW tp len (tB tp len t)) ∧ 258 ≤ kd t) ∨ (tkSort tp len (tB tp len t) = 2 ∧ kd t = 257 ∧ 0 ≤ tkW tp len (tB tp len t) ∧ t < T ∧ nm t = min 1001 (tkW tp len (tB tp len t))) ∨ (tkSort tp len (tB tp len t) = 3 ∧ kd t = tkW tp len (tB tp len t) ∧ 0 ≤ kd t ∧ kd t < 256) := by
  have k := h.kde t0 t1
  have r := h.rng t0 t1
  have s : tkSort tp len (tB tp len t) = 0 ∨ tkSort tp len (tB tp len t) = 1 ∨ tkSort tp len (tB tp len t) = 2 ∨ tkSort tp len (tB tp len t) = 3 := by
    unfold tkSort
    (repeat' split) <;> omega
  rcases s with s | s | s | s
  · exact Or.inl ⟨s, by rw [k]; unfold tkKind; rw [if_pos s]⟩
  · have e : kd t = kwW (tkW tp len (tB tp len t)) := by rw [k]; unfold tkKind; rw [if_neg (by omega), if_pos s]
    exact Or.inr (Or.inl ⟨s, e, by rw [e]; exact kwW_rng.1⟩)
  · have e : kd t = 257 := by rw [k]; unfold tkKind; rw [if_neg (by omega), if_neg (by omega), if_pos s]
    have tl := h.lt t1 (by omega)
    exact Or.inr (Or.inr (Or.inl ⟨s, e, tkW_dig s, tl, by rw [h.nme t0 tl]; unfold tkNum; rw [if_pos s]⟩))
  · have e : kd t = tp (tB tp len t) := by rw [k]; unfold tkKind; rw [if_neg (by omega), if_neg (by omega), if_neg (by omega)]
    have e2 : tkW tp len (tB tp len t) = tp (tB tp len t) := by unfold tkW; rw [if_neg (by omega), if_neg (by omega), if_neg (by omega)]
    have ne : tB tp len t ≠ len := fun z => by
      have : tkSort tp len (tB tp len t) = 0 := by unfold tkSort; rw [if_pos z]
      omega
    have b := h.2.1 (tB tp len t) r.1 (by omega)
    exact Or.inr (Or.inr (Or.inr ⟨s, by rw [e, e2], by omega, by omega⟩))
theorem at_sign {s : Int} (h : TkE tp len T kd nm) (a : AtT tp len F t) (t0 : 0 ≤ t) (t1 : t ≤ T) (s1 : s < 256) : (F 66 16 = 3 ∧ F 66 17 = s) ↔ kd t = s := by
  rw [a.2.2.1, a.2.2.2.1]
  rcases h.cases t0 t1 with c | c | c | c <;> omega
theorem at_word {v : Int} (i : Nat) (i27 : i < 27) (hv : wKs[i]? = some v) (h : TkE tp len T kd nm) (a : AtT tp len F t) (t0 : 0 ≤ t) (t1 : t ≤ T) : (F 66 16 = 1 ∧ F 66 17 = v) ↔ kd t = 259 + (i : Int) := by
  rw [a.2.2.1, a.2.2.2.1]
  have g := kw_get (w := tkW tp len (tB tp len t)) i i27 hv
  rcases h.cases t0 t1 with c | c | c | c
  · omega
  · rw [c.2.1, g]
    exact ⟨fun z => z.2, fun z => ⟨c.1, z⟩⟩
  · omega
  · omega
theorem at_dig (h : TkE tp len T kd nm) (a : AtT tp len F t) (t0 : 0 ≤ t) (t1 : t ≤ T) : (F 66 16 = 2 ↔ kd t = 257) ∧ (kd t = 257 → 0 ≤ F 66 17 ∧ nm t = min 1001 (F 66 17)) := by
  rw [a.2.2.1, a.2.2.2.1]
  rcases h.cases t0 t1 with c | c | c | c <;> omega
end C
section D
variable {l : Launch} {G : pG} {bg : Nat × Nat} {n : Nat} {K : Int → Nat × Nat} {F E : Int → Int → Int} {Q : Option pV → pM → Prop} {tp : Int → Int} {len : Int} {T : Nat} {kd nm : Int → Int} {t : Int}
theorem r_nextT (hK : KS K) (hF : FS F) (h : TkE tp len T kd nm) (h75 : E 75 = tp) (h13 : F 66 13 = len) (a : AtT tp len F t) (t0 : 0 ≤ t) (t1 : t < T) (hQ : ∀ F', FrT F F' → AtT tp len F' (t + 1) → Q none (n, K, F', E)) : PC l G 1 mX12_next bg [(2, 66)] (n, K, F, E) Q := by
  subst h75
  have r := h.rng t0 (by omega)
  have r2 := to_rng (tp := E 75) (r.2.2.1 t1)
  have e : tB (E 75) len (t + 1) = tkAt (E 75) len (tkTo (E 75) len (tB (E 75) len t)) := by
    unfold tB
    rw [show (t + 1).toNat = t.toNat + 1 by omega]
    rfl
  refine r_next hK hF h.1 h.2.1 h13 a.2.1 (by omega) r2.2 fun F' w a1 a2 a3 a4 => hQ F' w ?_
  unfold AtT
  rw [e]
  exact ⟨a1, a2, a3, a4, by rw [w.2 66 18 (by omega)]; exact a.2.2.2.2⟩
theorem r_mustF (hK : KS K) (h19 : F 66 19 = 0) (hQ : Q none (n, K, pUp (pUp F 66 19 1) 66 18 (F 66 14), E)) : PC l G 2 mX12_must bg [(2, 66), (0, 0)] (n, K, F, E) Q := by
  refine vX12_must_0 66 0 ⟨by rw [hK.k66], fun z => absurd h19 z, fun _ => ⟨fun z => absurd rfl z, fun _ F1 f1 F2 f2 => ?_⟩⟩
  rw [f2, f1]
  exact hQ
theorem r_mustT {x : Int} (x1 : x ≠ 0) (hK : KS K) (hF : FS F) (h : TkE tp len T kd nm) (h75 : E 75 = tp) (h13 : F 66 13 = len) (h19 : F 66 19 = 0) (a : AtT tp len F t) (t0 : 0 ≤ t) (t1 : t < T) (hQ : ∀ F', FrT F F' → AtT tp len F' (t + 1) → Q none (n, K, F', E)) : PC l G 2 mX12_must bg [(2, 66), (0, x)] (n, K, F, E) Q := by
  refine vX12_must_0 66 x ⟨by rw [hK.k66], fun z => absurd h19 z, fun _ => ⟨fun _ => ⟨fun z => absurd h19 z, fun _ => r_nextT hK hF h h75 h13 a t0 t1 fun F' w q => vX12_must_35 (hQ F' w q)⟩, fun z => absurd z x1⟩⟩
/-- the frame of the reference's reading -/
def FrQ (F E F' E' : Int → Int → Int) : Prop := (∀ r, r ≠ 77 → r ≠ 78 → r ≠ 79 → r ≠ 80 → E' r = E r) ∧ FS F' ∧ (∀ a k, ¬ (a = 66 ∧ ((14 ≤ k ∧ k ≤ 19) ∨ k = 23 ∨ k = 26 ∨ k = 29 ∨ k = 30)) → F' a k = F a k)
theorem FrQ.refl (h : FS F) : FrQ F E F E := ⟨fun _ _ _ _ _ => rfl, h, fun _ _ _ => rfl⟩
theorem FrQ.trans {F' E' F'' E'' : Int → Int → Int} (h : FrQ F E F' E') (h' : FrQ F' E' F'' E'') : FrQ F E F'' E'' := ⟨fun r a b c d => (h'.1 r a b c d).trans (h.1 r a b c d), h'.2.1, fun a k q => (h'.2.2 a k q).trans (h.2.2 a k q)⟩
theorem FrT.r {F' : Int → Int → Int} (h : FrT F F') : FrQ F E F' E := ⟨fun _ _ _ _ _ => rfl, h.1, fun a k q => h.2 a k (by omega)⟩
theorem FrQ.row {F' E' : Int → Int → Int} {a k v : Int} (h : FrQ F E F' E') (ha : a = 77 ∨ a = 78 ∨ a = 79 ∨ a = 80) : FrQ F E F' (pUp E' a k v) := ⟨fun r b c d e => by rw [pUp_an (by omega)]; exact h.1 r b c d e, h.2.1, h.2.2⟩
theorem FrQ.up {F' E' : Int → Int → Int} {k v : Int} (h : FrQ F E F' E') (hk : k = 18 ∨ k = 19 ∨ k = 23 ∨ k = 26 ∨ k = 29 ∨ k = 30) : FrQ F E (pUp F' 66 k v) E' := by
  refine ⟨h.1, ?_, fun a j q => ?_⟩
  · rcases hk with e | e | e | e | e | e <;> subst e <;> exact h.2.1.up (by decide)
  · unfold pUp
    rw [if_neg (by omega)]
    exact h.2.2 a j q
theorem FrQ.e {F' E' : Int → Int → Int} (h : FrQ F E F' E') : E' 75 = E 75 := h.1 75 (by decide) (by decide) (by decide) (by decide)
theorem FrQ.es {F' E' : Int → Int → Int} (h : FrQ F E F' E') (q : ES E) : ES E' := fun t ht => by
  have z : ∀ t ∈ eTab, t.1 ≠ 77 ∧ t.1 ≠ 78 ∧ t.1 ≠ 79 ∧ t.1 ≠ 80 := by decide
  have y := z t ht
  rw [h.1 t.1 y.1 y.2.1 y.2.2.1 y.2.2.2]
  exact q t ht
end D
