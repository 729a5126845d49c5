/-! WHAT CAN BE UNDONE, as a list: the class's ring and the reference's rows -/
def rCp (f g : Int → Int) (lo hi d : Int) : Int → Int := fun j => if lo ≤ j ∧ j < hi then g (j + d) else f j
theorem rCp_none {f g : Int → Int} {lo hi d : Int} (h : hi ≤ lo) : rCp f g lo hi d = f := by
  funext j
  unfold rCp
  rw [if_neg (by omega)]
theorem cp_step {E : Int → Int → Int} {a b i hi d v : Int} (hn : b ≠ a) (h : i < hi) (hv : v = E b (i + d)) : pRow (pUp E a i v) a (rCp (pUp E a i v a) (pUp E a i v b) (i + 1) hi d) = pRow E a (rCp (E a) (E b) i hi d) := by
  rw [pUp_an hn, pUp_row, pRow_row, pRow_at]
  congr 1
  funext j
  unfold rCp rUp
  by_cases e : i + 1 ≤ j ∧ j < hi
  · rw [if_pos e, if_pos (by omega)]
  · rw [if_neg e]
    by_cases e2 : j = i
    · rw [if_pos e2, if_pos (by omega), e2, hv]
    · rw [if_neg e2, if_neg (by omega)]
theorem pUp_self {f : Int → Int → Int} {a k : Int} : pUp f a k (f a k) = f := by
  funext x y
  unfold pUp
  by_cases h : x = a ∧ y = k
  · rw [if_pos h, h.1, h.2]
  · rw [if_neg h]
theorem pUp_pUp {f : Int → Int → Int} {a k v w : Int} : pUp (pUp f a k v) a k w = pUp f a k w := by
  funext x y
  unfold pUp
  by_cases h : x = a ∧ y = k
  · rw [if_pos h, if_pos h]
  · rw [if_neg h, if_neg h, if_neg h]
theorem pRow_comm {E : Int → Int → Int} {a b : Int} {g g' : Int → Int} (h : a ≠ b) : pRow (pRow E a g) b g' = pRow (pRow E b g') a g := by
  funext x
  unfold pRow
  by_cases h1 : x = a
  · rw [if_neg (by omega), if_pos h1, if_pos h1]
  · by_cases h2 : x = b
    · rw [if_pos h2, if_neg h1, if_pos h2]
    · rw [if_neg h2, if_neg h1, if_neg h1, if_neg h2]
abbrev tLog : Type := List (Int × (Int → Int))
def lgC (f s : Int) (kd cl : Int → Int) : tLog := (List.range s.toNat).map fun (i : Nat) => (kd ((f + (i : Int)) % 16), cz fun k => cl ((f + (i : Int)) % 16 * 117 + k))
def lgR (s : Int) (so un : Int → Int) : tLog := (List.range s.toNat).map fun (i : Nat) => (so (i : Int), cz fun k => un (117 * (i : Int) + k))
def lgPush (L : tLog) (e : Int × (Int → Int)) : tLog := (if L.length = 16 then L.tail else L) ++ [e]
theorem lgC_len {f s : Int} {kd cl : Int → Int} : (lgC f s kd cl).length = s.toNat := by unfold lgC; rw [List.length_map, List.length_range]
theorem lgR_len {s : Int} {so un : Int → Int} : (lgR s so un).length = s.toNat := by unfold lgR; rw [List.length_map, List.length_range]
theorem lgC_congr {f s : Int} {kd cl kd' cl' : Int → Int} (h0 : ∀ i, 0 ≤ i → i < s → kd' ((f + i) % 16) = kd ((f + i) % 16)) (h1 : ∀ i k, 0 ≤ i → i < s → 0 ≤ k → k < 117 → cl' ((f + i) % 16 * 117 + k) = cl ((f + i) % 16 * 117 + k)) : lgC f s kd' cl' = lgC f s kd cl := by
  unfold lgC
  refine List.map_congr_left fun i hi => ?_
  rw [List.mem_range] at hi
  rw [h0 i (by omega) (by omega), cz_ext fun k k0 k1 => h1 i k (by omega) (by omega) k0 k1]
theorem lgR_congr {s : Int} {so un so' un' : Int → Int} (h0 : ∀ i, 0 ≤ i → i < s → so' i = so i) (h1 : ∀ j, 0 ≤ j → j < 117 * s → un' j = un j) : lgR s so' un' = lgR s so un := by
  unfold lgR
  refine List.map_congr_left fun i hi => ?_
  rw [List.mem_range] at hi
  rw [h0 i (by omega) (by omega), cz_ext fun k k0 k1 => h1 (117 * (i : Int) + k) (by omega) (by omega)]
theorem lgC_succ {f s : Int} {kd cl : Int → Int} (h : 0 ≤ s) : lgC f (s + 1) kd cl = lgC f s kd cl ++ [(kd ((f + s) % 16), cz fun k => cl ((f + s) % 16 * 117 + k))] := by
  unfold lgC
  rw [show (s + 1).toNat = s.toNat + 1 by omega, List.range_succ, List.map_append]
  simp only [List.map_cons, List.map_nil]
  rw [show ((s.toNat : Nat) : Int) = s by omega]
theorem lgR_succ {s : Int} {so un : Int → Int} (h : 0 ≤ s) : lgR (s + 1) so un = lgR s so un ++ [(so s, cz fun k => un (117 * s + k))] := by
  unfold lgR
  rw [show (s + 1).toNat = s.toNat + 1 by omega, List.range_succ, List.map_append]
  simp only [List.map_cons, List.map_nil]
  rw [show ((s.toNat : Nat) : Int) = s by omega]
theorem lgC_tail {f s : Int} {kd cl : Int → Int} (h : 0 ≤ s) (f0 : 0 ≤ f) : (lgC f (s + 1) kd cl).tail = lgC ((f + 1) % 16) s kd cl := by
  unfold lgC
  rw [show (s + 1).toNat = s.toNat + 1 by omega, List.range_succ_eq_map, List.map_cons, List.tail_cons, List.map_map]
  refine List.map_congr_left fun i hi => ?_
  show (kd ((f + ((i + 1 : Nat) : Int)) % 16), cz fun k => cl ((f + ((i + 1 : Nat) : Int)) % 16 * 117 + k)) = _
  rw [show (f + ((i + 1 : Nat) : Int)) % 16 = ((f + 1) % 16 + (i : Int)) % 16 by omega]
theorem lgR_tail {s : Int} {so un : Int → Int} (h : 0 ≤ s) : (lgR (s + 1) so un).tail = lgR s (fun k => so (k + 1)) (fun k => un (k + 117)) := by
  unfold lgR
  rw [show (s + 1).toNat = s.toNat + 1 by omega, List.range_succ_eq_map, List.map_cons, List.tail_cons, List.map_map]
  refine List.map_congr_left fun i hi => ?_
  show (so ((i + 1 : Nat) : Int), cz fun k => un (117 * ((i + 1 : Nat) : Int) + k)) = _
  rw [show ((i + 1 : Nat) : Int) = (i : Int) + 1 by omega]
  congr 2
  funext k
  congr 1
  omega
/-- one more in the ring -/
theorem lgC_push {f s v : Int} {kd cl cl' src : Int → Int} (f0 : 0 ≤ f) (s0 : 0 ≤ s) (s1 : s < 16) (h1 : ∀ k, 0 ≤ k → k < 117 → cl' ((f + s) % 16 * 117 + k) = src k) (h2 : ∀ j, (j < (f + s) % 16 * 117 ∨ (f + s) % 16 * 117 + 117 ≤ j) → cl' j = cl j) :
    lgC f (s + 1) (rUp kd ((f + s) % 16) v) cl' = lgC f s kd cl ++ [(v, cz src)] := by
  rw [lgC_succ s0, rUp_s, cz_ext h1]
  congr 1
  refine lgC_congr (fun i i0 i1 => rUp_n (by omega)) (fun i k i0 i1 k0 k1 => h2 _ ?_)
  have e : (f + i) % 16 ≠ (f + s) % 16 := by omega
  generalize (f + i) % 16 = a at *
  generalize (f + s) % 16 = b at *
  omega
def LInv (L : tLog) : Prop := L.length ≤ 16 ∧ ∀ e ∈ L, (0 ≤ e.1 ∧ e.1 ≤ 4) ∧ CInv e.2
theorem CInv.congr {f g : Int → Int} (h : CInv f) (e : ∀ k, 0 ≤ k → k < 117 → g k = f k) : CInv g := by
  obtain ⟨h1, h2, h3, h4, h5, h6⟩ := h
  have e0 := e 0 (by decide) (by decide)
  have e1 := e 1 (by decide) (by decide)
  have e2 := e 2 (by decide) (by decide)
  refine ⟨by omega, by omega, by omega, fun r r0 r1 => ?_, fun o o0 o1 => ?_, fun r i r0 r1 i0 i1 => ?_⟩
  · rw [e (3 + r) (by omega) (by omega), e (6 + r) (by omega) (by omega), e (9 + r) (by omega) (by omega)]
    exact h4 r r0 r1
  · rw [e (12 + 6 * o) (by omega) (by omega), e (13 + 6 * o) (by omega) (by omega), e (14 + 6 * o) (by omega) (by omega), e (15 + 6 * o) (by omega) (by omega), e (16 + 6 * o) (by omega) (by omega), e (17 + 6 * o) (by omega) (by omega), e1]
    exact h5 o o0 (by omega)
  · have e9 := e (9 + r) (by omega) (by omega)
    have b := (h4 r r0 r1)
    rw [e (36 + 27 * r + 3 * i) (by omega) (by omega), e (37 + 27 * r + 3 * i) (by omega) (by omega), e (38 + 27 * r + 3 * i) (by omega) (by omega), e1, e9]
    obtain ⟨a1, a2, a3, a4⟩ := h6 r i r0 r1 i0 (by omega)
    refine ⟨a1, a2, a3, fun q => ?_⟩
    rw [e (38 + 27 * r + 3 * (i + 1)) (by omega) (by omega)]
    exact a4 q
theorem cinv_cz {f : Int → Int} (h : CInv f) : CInv (cz f) := h.congr fun _ h0 h1 => cz_in h0 h1
theorem cinv_of {f : Int → Int} (h : CInv (cz f)) : CInv f := h.congr fun _ h0 h1 => (cz_in h0 h1).symm
theorem ur_lg {f s nu : Int} {kd cl un so : Int → Int} (h : UR f s kd cl nu un so) : lgR nu so un = lgC f s kd cl ∧ LInv (lgC f s kd cl) := by
  obtain ⟨h1, h2, h3, h4⟩ := h
  subst h3
  have e : lgR nu so un = lgC f nu kd cl := by
    unfold lgR lgC
    refine List.map_congr_left fun i hi => ?_
    rw [List.mem_range] at hi
    obtain ⟨a, b, c, d⟩ := h4 i (by omega) (by omega)
    rw [a, cz_ext c]
  refine ⟨e, ?_, fun q hq => ?_⟩
  · rw [lgC_len]; omega
  · rw [← e] at hq
    unfold lgR at hq
    rw [List.mem_map] at hq
    obtain ⟨i, hi, rfl⟩ := hq
    rw [List.mem_range] at hi
    obtain ⟨a, b, c, d⟩ := h4 i (by omega) (by omega)
    exact ⟨b, cinv_cz d⟩
theorem lg_ur {f s : Int} {kd cl un so : Int → Int} (f0 : 0 ≤ f) (f1 : f < 16) (s0 : 0 ≤ s) (s1 : s ≤ 16) (h : lgR s so un = lgC f s kd cl) (hL : LInv (lgC f s kd cl)) : UR f s kd cl s un so := by
  refine ⟨⟨f0, f1⟩, ⟨s0, s1⟩, rfl, fun i i0 i1 => ?_⟩
  have m1 : (lgR s so un)[i.toNat]? = some (so i, cz fun k => un (117 * i + k)) := by
    unfold lgR
    rw [List.getElem?_map, List.getElem?_range (show i.toNat < s.toNat by omega)]
    show some (so ((i.toNat : Nat) : Int), cz fun k => un (117 * ((i.toNat : Nat) : Int) + k)) = _
    rw [show ((i.toNat : Nat) : Int) = i by omega]
  have m2 : (lgC f s kd cl)[i.toNat]? = some (kd ((f + i) % 16), cz fun k => cl ((f + i) % 16 * 117 + k)) := by
    unfold lgC
    rw [List.getElem?_map, List.getElem?_range (show i.toNat < s.toNat by omega)]
    show some (kd ((f + ((i.toNat : Nat) : Int)) % 16), cz fun k => cl ((f + ((i.toNat : Nat) : Int)) % 16 * 117 + k)) = _
    rw [show ((i.toNat : Nat) : Int) = i by omega]
  have m3 := m1
  rw [h, m2] at m3
  have m4 := Option.some.inj m3
  have p1 := congrArg Prod.fst m4
  have p2 := congrArg Prod.snd m4
  have q := hL.2 _ (List.mem_of_getElem? m2)
  refine ⟨p1.symm, ?_, fun k k0 k1 => (cz_eq p2 k0 k1).symm, ?_⟩
  · rw [← show kd ((f + i) % 16) = so i from p1]
    exact q.1
  · have q2 := q.2
    rw [show (cz fun k => cl ((f + i) % 16 * 117 + k)) = cz fun k => un (117 * i + k) from p2] at q2
    exact cinv_of q2
theorem LInv.push {L : tLog} {e : Int × (Int → Int)} (h : LInv L) (he : (0 ≤ e.1 ∧ e.1 ≤ 4) ∧ CInv e.2) : LInv (lgPush L e) := by
  unfold lgPush
  refine ⟨?_, fun q hq => ?_⟩
  · rw [List.length_append, List.length_singleton]
    have := h.1
    split
    · rw [List.length_tail]; omega
    · omega
  · rw [List.mem_append, List.mem_singleton] at hq
    rcases hq with hq | rfl
    · refine h.2 q ?_
      split at hq
      · exact List.mem_of_mem_tail hq
      · exact hq
    · exact he
section L
variable {l : Launch} {G : pG} {bg : Nat × Nat} {n : Nat} {K : Int → Nat × Nat} {F : Int → Int → Int} {Q : Option pV → pM → Prop}
theorem c_push {E : Int → Int → Int} {x c v : Int} (hK : KS K) (hF : FS F) (hx : (K x).1 = 0) (hc : F x 0 = c) (hk : K c = (20, 117)) (c0 : 0 ≤ c) (c11 : c ≠ 11) (c12 : c ≠ 12) (f0 : 0 ≤ F 10 2) (f1 : F 10 2 < 16) (s0 : 0 ≤ F 10 3) (s1 : F 10 3 ≤ 16)
    (hQ : ∀ f s kd cl, 0 ≤ f → f < 16 → 0 ≤ s → s ≤ 16 → lgC f s kd cl = lgPush (lgC (F 10 2) (F 10 3) (E 11) (E 12)) (v, cz (E c)) → Q none (n, K, pUp (pUp F 10 2 f) 10 3 s, pRow (pRow E 11 kd) 12 cl)) : PC l G 0 mX3_push bg [(2, 10), (0, v), (2, x)] (n, K, F, E) Q := by
  refine vX3_push_0 10 v x ?_
  have e1 : ((20, 16) : Nat × Nat).2 = 16 := rfl
  have e2 : ((20, 117) : Nat × Nat).2 = 117 := rfl
  have e3 : ((20, 1872) : Nat × Nat).2 = 1872 := rfl
  have len : (lgC (F 10 2) (F 10 3) (E 11) (E 12)).length = (F 10 3).toNat := lgC_len
  simp only [hF.f10_0, hF.f10_1, hK.k10, hK.k11, hK.k12, hc, hk]
  refine ⟨trivial, fun z => ?_, fun z => ?_⟩
  · have t : (F 10 2 + F 10 3).tmod 16 = (F 10 2 + F 10 3) % 16 := Int.tmod_eq_emod_of_nonneg (by omega)
    rw [t]
    refine ⟨by omega, by decide, trivial, by omega, fun E1 q1 => ⟨hx, by omega, c0, trivial, by decide, trivial, by omega, fun E2 q2 => ⟨by omega, fun F3 q3 => ?_⟩⟩⟩
    have r3 : F3 = pUp (pUp F 10 2 (F 10 2)) 10 3 (F 10 3 + 1) := by rw [q3, pUp_self]
    have r2 : E2 = pRow (pRow E 11 (rUp (E 11) ((F 10 2 + F 10 3) % 16) v)) 12 (pCpy E1 c 0 12 ((F 10 2 + F 10 3) % 16 * 117) 117) := by rw [q2, q1, ← pUp_row]
    rw [r2, r3]
    refine hQ _ _ _ _ f0 f1 (by omega) (by omega) ?_
    unfold lgPush
    rw [if_neg (by omega)]
    refine lgC_push f0 s0 (by omega) (fun k k0 k1 => ?_) (fun j hj => ?_)
    · unfold pCpy
      rw [if_pos (by omega), q1, pUp_an c11]
      congr 1
      omega
    · unfold pCpy
      rw [if_neg (by omega), q1, pUp_an (by decide)]
  · have t : (F 10 2 + 1).tmod 16 = (F 10 2 + 1) % 16 := Int.tmod_eq_emod_of_nonneg (by omega)
    rw [t]
    refine ⟨by omega, fun F4 q4 => ⟨by omega, fun F5 q5 => ⟨by omega, fun a6 q6 => ?_⟩⟩⟩
    have t6 : a6.tmod 16 = ((F 10 2 + 1) % 16 + 15) % 16 := by
      rw [Int.tmod_eq_emod_of_nonneg (by omega), q6, z]
      rfl
    rw [t6]
    refine ⟨by decide, trivial, by omega, fun E1 q1 => ⟨hx, by omega, c0, trivial, by decide, trivial, by omega, fun E2 q2 => ⟨by omega, fun F3 q3 => ?_⟩⟩⟩
    have r3 : F3 = pUp (pUp F 10 2 ((F 10 2 + 1) % 16)) 10 3 (15 + 1) := by rw [q3, q5, q4, pUp_pUp, z]; rfl
    have r2 : E2 = pRow (pRow E 11 (rUp (E 11) (((F 10 2 + 1) % 16 + 15) % 16) v)) 12 (pCpy E1 c 0 12 (((F 10 2 + 1) % 16 + 15) % 16 * 117) 117) := by rw [q2, q1, ← pUp_row]
    rw [r2, r3]
    refine hQ _ _ _ _ (by omega) (by omega) (by omega) (by omega) ?_
    unfold lgPush
    rw [if_pos (by omega), z, show (16 : Int) = 15 + 1 from rfl, lgC_tail (by decide) f0]
    refine lgC_push (by omega) (by decide) (by decide) (fun k k0 k1 => ?_) (fun j hj => ?_)
    · unfold pCpy
      rw [if_pos (by omega), q1, pUp_an c11]
      congr 1
      omega
    · unfold pCpy
      rw [if_neg (by omega), q1, pUp_an (by decide)]
end L
