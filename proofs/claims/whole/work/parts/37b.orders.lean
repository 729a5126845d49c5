/-! ORDERS in the class, from begin to end; the pair -/
def FrZc (F E F' E' : Int → Int → Int) : Prop := (∀ r, r ≠ 3 → r ≠ 11 → r ≠ 12 → r ≠ 14 → r ≠ 15 → r ≠ 17 → (r < 24 ∨ 29 < r) → r ≠ 32 → r ≠ 33 → (r < 36 ∨ 40 < r) → (r < 46 ∨ 49 < r) → E' r = E r) ∧ FS F' ∧ ∀ a k, a ≠ 20 → a ≠ 27 → a ≠ 30 → a ≠ 44 → ¬ (a = 10 ∧ (k = 2 ∨ k = 3)) → ¬ (a = 13 ∧ (k = 2 ∨ k = 3)) → ¬ (a = 0 ∧ (k = 16 ∨ k = 17)) → ¬ (a = 22 ∧ k = 1) → F' a k = F a k
section C
variable {l : Launch} {G : pG} {bg : Nat × Nat} {n : Nat} {K : Int → Nat × Nat} {Q : Option pV → pM → Prop} {L : Option tLaw} {mood bud : Int}
theorem c_orders {F E : Int → Int → Int} {tp : Int → Int} {len : Int} {s0 : tOr} (hK : KS K) (hF : FS F) (hlen : 0 ≤ len ∧ len ≤ 400) (h22 : F 22 1 = len) (hj : ∀ j, 0 ≤ j → j < len → bAnd (E 23 j) 255 = tp j) (hb : ∀ j, 0 ≤ j → j < len → 0 ≤ tp j ∧ tp j < 256)
    (hc : cz (E 3) = s0.1) (hlg : lgC (F 10 2) (F 10 3) (E 11) (E 12) = s0.2.1) (h10 : (0 ≤ F 10 2 ∧ F 10 2 < 16) ∧ 0 ≤ F 10 3 ∧ F 10 3 ≤ 16) (hd : s0.2.2.1 = 0) (hla : s0.2.2.2 = -1) (so : SOk 0 s0) (lw : LwC K F E L) (hm : E 4 2 = mood) (m0 : 0 ≤ mood ∧ mood ≤ 9) (hbu : E 4 0 = bud)
    (hA : ∀ F' E' (T : Nat) (t' : Int) C N, FrZc F E F' E' → TkC tp len T E' → 0 ≤ t' → t' ≤ T → TxG false (E' 24) (E' 26) 12 0 0 0 false t' C N → F' 0 17 = tkB tp len t'.toNat → F' 22 1 = 0 → F' 0 16 = -6 → F' 44 5 = -1 → E' 49 = rUp (E 49) 4 (w32 (E 49 4 + 1)) → (∀ r, r = 3 ∨ r = 11 ∨ r = 12 → E' r = E r) → (F' 10 2 = F 10 2 ∧ F' 10 3 = F 10 3) → Q (some (0, -6)) (n, K, F', E'))
    (hB : ∀ F' E' (T : Nat) (t' : Int) C N s', FrZc F E F' E' → TkC tp len T E' → 0 ≤ t' → t' ≤ T → TxG false (E' 24) (E' 26) 12 0 0 0 true t' C N → (∀ c : Nat, c < N → KlC false (E' 28) (E' 29) (F' 27 3) c (C c)) → (oAll L mood bud C N 0 s0).1 = some s' → SOk (20 * N) s' → F' 0 17 = -1 → F' 22 1 = 0 → F' 0 16 = 0 → F' 44 5 = -1 → E' 49 = E 49 → CO F' E' s' → Q (some (0, s'.2.2.1)) (n, K, F', E'))
    (hC : ∀ F' E' (T : Nat) (t' : Int) C N, FrZc F E F' E' → TkC tp len T E' → 0 ≤ t' → t' ≤ T → TxG false (E' 24) (E' 26) 12 0 0 0 true t' C N → (∀ c : Nat, c < N → KlC false (E' 28) (E' 29) (F' 27 3) c (C c)) → (oAll L mood bud C N 0 s0).1 = none → F' 0 17 = -1 → F' 22 1 = 0 → F' 0 16 = -3 → F' 44 5 = (oAll L mood bud C N 0 s0).2 → E' 49 = rUp (E 49) 2 (w32 (E 49 2 + 1)) → cz (E' 3) = s0.1 → (∀ j, 0 ≤ j → j < 16 → E' 11 j = E 11 j) → (∀ j, 0 ≤ j → j < 1872 → E' 12 j = E 12 j) → (F' 10 2 = F 10 2 ∧ F' 10 3 = F 10 3) → Q (some (0, -3)) (n, K, F', E')) : PC l G 83 mX11_orders bg [(2, 0)] (n, K, F, E) Q := by
  refine vX11_orders_0 0 ?_
  simp only [hF.f0_8, hF.f0_12, hK.k0, hK.k20, hK.k44]
  refine ⟨trivial, trivial, fun F1 f1 F2 f2 F3 f3 => ⟨trivial, ?_⟩⟩
  have hF3 : FS F3 := by rw [f3, f2, f1]; exact ((hF.up (by decide)).up (by decide)).up (by decide)
  have k3 : ∀ a k, a ≠ 44 → F3 a k = F a k := fun a k q => by rw [f3, pUp_a q, f2, pUp_a q, f1, pUp_a q]
  have v3 : F3 44 3 = 0 ∧ F3 44 4 = -1 ∧ F3 44 5 = -1 := ⟨by rw [f3, pUp_k (by decide), f2, pUp_k (by decide), f1, pUp_s], by rw [f3, pUp_k (by decide), f2, pUp_s], by rw [f3, pUp_s]⟩
  have rd : PC l G 82 mX5_read (0, 0) [(2, 20), (0, if false = true then 1 else 0)] (n, K, F3, E) (fun r μ => PW l G 83 mX11_orders bg 16 [(0, (2, 0))] (r.toList ++ [(2, 0)]) μ Q) := by
    refine c_read (lw := false) (tp := tp) (len := len) hK hF3 hlen (by rw [k3 22 1 (by decide)]; exact h22) hj hb (fun Fr Er T t' C N w tk t0 t1 tx => ?_) (fun Fr Er T t' C N w tk t0 t1 tx m2 m12 m3 kl => ?_)
    · have hFr := w.2.1
      have tke := tke_of hlen hb tk
      have pos : 0 ≤ tkB tp len t'.toNat := (tke.rng t0 t1).1
      have kf : ∀ a k, a ≠ 20 → a ≠ 27 → Fr a k = F3 a k := fun a k q1 q2 => w.2.2 a k (by omega) (by omega)
      refine vX11_orders_16 0 _ 0 ⟨by rw [hK.k0], fun F4 f4 => ?_⟩
      have hF4 : FS F4 := by rw [f4]; exact hFr.up (by decide)
      simp only [hF4.f0_0, hF4.f0_3, hF4.f0_4, hF4.f0_5, hF4.f0_9, hF4.f0_13, hFr.f1_0, hK.k0, hK.k1, hK.k22, hK.k49]
      have v17 : F4 0 17 = tkB tp len t'.toNat := by rw [f4, pUp_s]
      refine ⟨trivial, trivial, fun F5 f5 => ⟨fun y => absurd y (by omega), fun _ F6 f6 => ⟨trivial, by decide, by decide, fun E7 e7 => ?_⟩⟩⟩
      have g6 : ∀ a k, ¬ (a = 0 ∧ (k = 16 ∨ k = 17)) → ¬ (a = 22 ∧ k = 1) → F6 a k = Fr a k := fun a k q1 q2 => by
        rw [f6, f5, f4]; unfold pUp; rw [if_neg (by omega), if_neg (by omega), if_neg (by omega)]
      have n7 : ∀ r, r ≠ 49 → E7 r = Er r := fun r hr => by rw [e7, pUp_an hr]
      have tk7 : TkC tp len T E7 := by
        unfold TkC
        rw [n7 24 (by decide), n7 25 (by decide), n7 26 (by decide)]
        exact tk
      refine hA F6 E7 T t' C N ⟨fun r a1 a2 a3 a4 a5 a6 a7 a8 a9 a10 a11 => ?_, by rw [f6, f5]; exact (hF4.up (by decide)).up (by decide), fun a k b1 b2 b3 b4 b5 b6 b7 b8 => ?_⟩ tk7 t0 t1 (by rw [n7 24 (by decide), n7 26 (by decide)]; exact tx) ?_ ?_ ?_ ?_ ?_ (fun r hr => ?_) ⟨?_, ?_⟩
      · rw [n7 r (by omega)]; exact w.1 r (by omega) (by omega) (by omega) (by omega) (by omega)
      · rw [g6 a k b7 b8, kf a k b1 b2, k3 a k b4]
      · rw [f6, pUp_k (by decide), f5, pUp_a (by decide)]; exact v17
      · rw [f6, pUp_a (by decide), f5, pUp_s]
      · rw [f6, pUp_s]
      · rw [g6 44 5 (by omega) (by omega), kf 44 5 (by decide) (by decide)]; exact v3.2.2
      · rw [e7, pUp_row, pRow1, if_pos rfl, w.1 49 (by decide) (by decide) (by decide) (by decide) (by decide)]
      · rw [n7 r (by omega)]; exact w.1 r (by omega) (by omega) (by omega) (by omega) (by omega)
      · rw [g6 10 2 (by omega) (by omega), kf 10 2 (by decide) (by decide), k3 10 2 (by decide)]
      · rw [g6 10 3 (by omega) (by omega), kf 10 3 (by decide) (by decide), k3 10 3 (by decide)]
    · have hFr := w.2.1
      have tke := tke_of hlen hb tk
      have kf : ∀ a k, a ≠ 20 → a ≠ 27 → Fr a k = F3 a k := fun a k q1 q2 => w.2.2 a k (by omega) (by omega)
      have txo := txg_ok tke 12 0 tx (by decide) (by omega)
      refine vX11_orders_16 0 (-1) 0 ⟨by rw [hK.k0], fun F4 f4 => ?_⟩
      have hF4 : FS F4 := by rw [f4]; exact hFr.up (by decide)
      simp only [hF4.f0_0, hF4.f0_3, hF4.f0_4, hF4.f0_5, hF4.f0_9, hF4.f0_13, hFr.f1_0, hFr.f2_0, hFr.f16_0, hK.k0, hK.k1, hK.k2, hK.k3, hK.k13, hK.k16, hK.k17, hK.k22, hK.k49]
      have v17 : F4 0 17 = -1 := by rw [f4, pUp_s]
      refine ⟨trivial, trivial, fun F5 f5 => ⟨fun _ => ⟨trivial, trivial, trivial, by decide, trivial, by decide, trivial, by decide, fun E6 e6 => ⟨trivial, ?_⟩⟩, fun y => absurd v17 y⟩⟩
      have hF5 : FS F5 := by rw [f5]; exact hF4.up (by decide)
      have g5 : ∀ a k, ¬ (a = 0 ∧ k = 17) → ¬ (a = 22 ∧ k = 1) → F5 a k = Fr a k := fun a k q1 q2 => by
        rw [f5, f4]; unfold pUp; rw [if_neg (by omega), if_neg (by omega)]
      have n6 : ∀ r, r ≠ 17 → E6 r = Er r := fun r hr => by rw [e6, pRow_ne hr]
      refine vX3_copy_0 13 10 ?_
      simp only [hF5.f13_0, hF5.f13_1, hF5.f10_0, hF5.f10_1, hK.k10, hK.k11, hK.k12, hK.k13, hK.k14, hK.k15]
      refine ⟨trivial, trivial, trivial, by decide, trivial, by decide, by decide, fun E7 e7 => ⟨trivial, by decide, trivial, by decide, by decide, fun E8 e8 F8 f8 F9 f9 => vX11_orders_67 0 ?_⟩⟩
      have g9 : ∀ a k, ¬ (a = 13 ∧ (k = 2 ∨ k = 3)) → F9 a k = F5 a k := fun a k q => by rw [f9, f8]; unfold pUp; rw [if_neg (by omega), if_neg (by omega)]
      have hF9 : FS F9 := by rw [f9, f8]; exact (hF5.up (by decide)).up (by decide)
      have n8 : ∀ r, r ≠ 14 → r ≠ 15 → r ≠ 17 → E8 r = Er r := fun r a b c => by rw [e8, pRow_ne b, e7, pRow_ne a, n6 r c]
      simp only [hF9.f0_8, hF9.f20_1, hK.k0, hK.k20]
      refine ⟨trivial, trivial, ?_⟩
      have er : ∀ r, r ≠ 14 → r ≠ 15 → r ≠ 17 → (r < 24 ∨ 29 < r) → E8 r = E r := fun r a b c d => by rw [n8 r a b c]; exact w.1 r (by omega) (by omega) (by omega) (by omega) (by omega)
      have fr : ∀ a k, a ≠ 20 → a ≠ 27 → a ≠ 44 → ¬ (a = 13 ∧ (k = 2 ∨ k = 3)) → ¬ (a = 0 ∧ k = 17) → ¬ (a = 22 ∧ k = 1) → F9 a k = F a k := fun a k q1 q2 q3 q4 q5 q6 => by rw [g9 a k q4, g5 a k q5 q6, kf a k q1 q2, k3 a k q3]
      have f44 : ∀ k, F9 44 k = F3 44 k := fun k => by rw [g9 44 k (by omega), g5 44 k (by omega) (by omega), kf 44 k (by decide) (by decide)]
      have f27 : ∀ k, F9 27 k = Fr 27 k := fun k => by rw [g9 27 k (by omega), g5 27 k (by omega) (by omega)]
      have f102 : F9 10 2 = F 10 2 ∧ F9 10 3 = F 10 3 := ⟨fr 10 2 (by decide) (by decide) (by decide) (by omega) (by omega) (by omega), fr 10 3 (by decide) (by decide) (by decide) (by omega) (by omega) (by omega)⟩
      have co : CO F9 E8 s0 := by
        refine ⟨by rw [er 3 (by decide) (by decide) (by decide) (by decide)]; exact hc, ?_, ?_, ?_, ?_⟩
        · rw [f102.1, f102.2, er 11 (by decide) (by decide) (by decide) (by decide), er 12 (by decide) (by decide) (by decide) (by decide)]; exact hlg
        · rw [f102.1, f102.2]; exact h10
        · rw [f44 3, hd]; exact v3.1
        · rw [f44 4, hla]; exact v3.2.1
      have lw9 : LwC K F9 E8 L := by
        refine ⟨?_, lw.2⟩
        rw [fr 1 7 (by decide) (by decide) (by decide) (by omega) (by omega) (by omega), fr 1 6 (by decide) (by decide) (by decide) (by omega) (by omega) (by omega), er 7 (by decide) (by decide) (by decide) (by decide)]
        exact lw.1.imp id (fun ⟨L', e, q, v⟩ => ⟨L', e, q, v.keep (fun a ha => funext fun k => fr a k (by omega) (by omega) (by omega) (by omega) (by omega) (by omega)) (fun a ha => er a (by omega) (by omega) (by omega) (by omega))⟩)
      have e28 : E8 28 = Er 28 := n8 28 (by decide) (by decide) (by decide)
      have e29 : E8 29 = Er 29 := n8 29 (by decide) (by decide) (by decide)
      have e49 : E8 49 = E 49 := er 49 (by decide) (by decide) (by decide) (by decide)
      have tk8 : ∀ F' E', FrCo F9 E8 F' E' → TkC tp len T E' := fun F' E' v => by
        unfold TkC
        rw [v.1 24 (by decide) (by decide) (by decide) (by decide) (by decide) (by decide) (by decide) (by decide) (by decide), v.1 25 (by decide) (by decide) (by decide) (by decide) (by decide) (by decide) (by decide) (by decide) (by decide), v.1 26 (by decide) (by decide) (by decide) (by decide) (by decide) (by decide) (by decide) (by decide) (by decide), n8 24 (by decide) (by decide) (by decide), n8 25 (by decide) (by decide) (by decide), n8 26 (by decide) (by decide) (by decide)]
        exact tk
      have tx8 : ∀ F' E', FrCo F9 E8 F' E' → TxG false (E' 24) (E' 26) 12 0 0 0 true t' C N := fun F' E' v => by
        rw [v.1 24 (by decide) (by decide) (by decide) (by decide) (by decide) (by decide) (by decide) (by decide) (by decide), v.1 26 (by decide) (by decide) (by decide) (by decide) (by decide) (by decide) (by decide) (by decide) (by decide), n8 24 (by decide) (by decide) (by decide), n8 26 (by decide) (by decide) (by decide)]
        exact tx
      have kl8 : ∀ F' E', FrCo F9 E8 F' E' → ∀ c : Nat, c < N → KlC false (E' 28) (E' 29) (F' 27 3) c (C c) := fun F' E' v c hcN => by
        rw [v.1 28 (by decide) (by decide) (by decide) (by decide) (by decide) (by decide) (by decide) (by decide) (by decide), v.1 29 (by decide) (by decide) (by decide) (by decide) (by decide) (by decide) (by decide) (by decide) (by decide), v.2.2 27 3 (by decide) (by omega) (by omega), e28, e29, f27 3]
        exact kl c hcN
      refine c_orders_77 (C := C) (N := N) (L := L) (mood := mood) (bud := bud) hK m12 (fun c h => txo.2 c (by omega) h) m0 N 0 s0 F9 E8 (by omega) hF9 co (so.up (by omega)) (by rw [f44 5]; exact v3.2.2) (by rw [f27 2]; exact m2) (kl8 F9 E8 (FrCo.refl hF9)) (by rw [f27 3]; exact m3.2) lw9 (by rw [er 4 (by decide) (by decide) (by decide) (by decide)]; exact hm) (by rw [er 4 (by decide) (by decide) (by decide) (by decide)]; exact hbu) (fun oo F10 E10 w10 v5 E11 e11 => ?_) (fun s' oo sk F10 E10 w10 v5 co10 F11 f11 => ?_)
      · -- it stops
        have hF10 := w10.2.1
        have c10 : ∀ r, r ≠ 3 → r ≠ 11 → r ≠ 12 → r ≠ 32 → r ≠ 33 → (r < 36 ∨ 40 < r) → r ≠ 46 → r ≠ 47 → r ≠ 48 → E10 r = E8 r := w10.1
        refine vX3_copy_0 10 13 ?_
        simp only [hF10.f13_0, hF10.f13_1, hF10.f10_0, hF10.f10_1, hK.k10, hK.k11, hK.k12, hK.k13, hK.k14, hK.k15]
        refine ⟨trivial, trivial, trivial, by decide, trivial, by decide, by decide, fun E12 e12 => ⟨trivial, by decide, trivial, by decide, by decide, fun E13 e13 F12 f12 F13 f13 => vX11_orders_156 0 ?_⟩⟩
        have hF13 : FS F13 := by rw [f13, f12]; exact (hF10.up (by decide)).up (by decide)
        have g13 : ∀ a k, ¬ (a = 10 ∧ (k = 2 ∨ k = 3)) → F13 a k = F10 a k := fun a k q => by rw [f13, f12]; unfold pUp; rw [if_neg (by omega), if_neg (by omega)]
        have n13 : ∀ r, r ≠ 3 → r ≠ 11 → r ≠ 12 → E13 r = E10 r := fun r a b c => by rw [e13, pRow_ne c, e12, pRow_ne b, e11, pRow_ne a]
        simp only [hF13.f0_13, hK.k0, hK.k49]
        refine ⟨trivial, fun F14 f14 => ⟨trivial, by decide, by decide, fun E14 e14 => ?_⟩⟩
        have g14 : ∀ a k, ¬ (a = 0 ∧ k = 16) → F14 a k = F13 a k := fun a k q => by rw [f14]; unfold pUp; rw [if_neg (by omega)]
        have n14 : ∀ r, r ≠ 49 → E14 r = E13 r := fun r hr => by rw [e14, pUp_an hr]
        have fk : ∀ a k, a ≠ 20 → a ≠ 27 → a ≠ 30 → a ≠ 44 → ¬ (a = 10 ∧ (k = 2 ∨ k = 3)) → ¬ (a = 13 ∧ (k = 2 ∨ k = 3)) → ¬ (a = 0 ∧ (k = 16 ∨ k = 17)) → ¬ (a = 22 ∧ k = 1) → F14 a k = F a k := fun a k b1 b2 b3 b4 b5 b6 b7 b8 => by rw [g14 a k (by omega), g13 a k b5, w10.2.2 a k b3 b5 (by omega), fr a k b1 b2 b4 b6 (by omega) b8]
        have v10 : ∀ k, F10 44 k = F14 44 k := fun k => by rw [g14 44 k (by omega), g13 44 k (by omega)]
        have t24 : ∀ r, r = 24 ∨ r = 25 ∨ r = 26 ∨ r = 28 ∨ r = 29 → E14 r = E10 r := fun r hr => by rw [n14 r (by omega), n13 r (by omega) (by omega) (by omega)]
        have tkz : TkC tp len T E14 := by
          unfold TkC
          rw [t24 24 (by decide), t24 25 (by decide), t24 26 (by decide)]
          exact tk8 F10 E10 w10
        refine hC F14 E14 T t' C N ⟨fun r a1 a2 a3 a4 a5 a6 a7 a8 a9 a10 a11 => ?_, by rw [f14]; exact hF13.up (by decide), fk⟩ tkz t0 t1 (by rw [t24 24 (by decide), t24 26 (by decide)]; exact tx8 F10 E10 w10) (fun c hcN => ?_) oo ?_ ?_ ?_ ?_ ?_ ?_ (fun j j0 j1 => ?_) (fun j j0 j1 => ?_) ⟨?_, ?_⟩
        · rw [n14 r (by omega), n13 r a1 a2 a3, c10 r a1 a2 a3 a8 a9 a10 (by omega) (by omega) (by omega), er r a4 a5 a6 a7]
        · rw [t24 28 (by decide), t24 29 (by decide), g14 27 3 (by omega), g13 27 3 (by omega)]; exact kl8 F10 E10 w10 c hcN
        · rw [g14 0 17 (by omega), g13 0 17 (by omega), w10.2.2 0 17 (by decide) (by omega) (by omega), g9 0 17 (by omega), f5, pUp_a (by decide)]; exact v17
        · rw [g14 22 1 (by omega), g13 22 1 (by omega), w10.2.2 22 1 (by decide) (by omega) (by omega), g9 22 1 (by omega), f5, pUp_s]
        · rw [f14, pUp_s]
        · rw [← v10 5]; exact v5
        · rw [e14, pUp_row, pRow1, if_pos rfl, n13 49 (by decide) (by decide) (by decide), c10 49 (by decide) (by decide) (by decide) (by decide) (by decide) (by decide) (by decide) (by decide) (by decide), e49]
        · rw [n14 3 (by decide), e13, pRow_ne (by decide), e12, pRow_ne (by decide), e11, pRow_at, ← hc]
          refine cz_ext fun k k0 k1 => ?_
          unfold pCpy
          rw [if_pos (by omega), c10 17 (by decide) (by decide) (by decide) (by decide) (by decide) (by decide) (by decide) (by decide) (by decide), e8, pRow_ne (by decide), e7, pRow_ne (by decide), e6, pRow_at]
          unfold pCpy
          rw [if_pos (by omega), w.1 3 (by decide) (by decide) (by decide) (by decide) (by decide)]
          congr 1
          omega
        · rw [n14 11 (by decide), e13, pRow_ne (by decide), e12, pRow_at]
          unfold pCpy
          rw [if_pos (by omega), e11, pRow_ne (by decide), c10 14 (by decide) (by decide) (by decide) (by decide) (by decide) (by decide) (by decide) (by decide) (by decide), e8, pRow_ne (by decide), e7, pRow_at]
          unfold pCpy
          rw [if_pos (by omega), n6 11 (by decide), w.1 11 (by decide) (by decide) (by decide) (by decide) (by decide)]
          congr 1
          omega
        · rw [n14 12 (by decide), e13, pRow_at]
          unfold pCpy
          rw [if_pos (by omega), e12, pRow_ne (by decide), e11, pRow_ne (by decide), c10 15 (by decide) (by decide) (by decide) (by decide) (by decide) (by decide) (by decide) (by decide) (by decide), e8, pRow_at]
          unfold pCpy
          rw [if_pos (by omega), e7, pRow_ne (by decide), n6 12 (by decide), w.1 12 (by decide) (by decide) (by decide) (by decide) (by decide)]
          congr 1
          omega
        · rw [g14 10 2 (by omega), f13, pUp_k (by decide), f12, pUp_s, w10.2.2 13 2 (by decide) (by omega) (by omega), f9, pUp_k (by decide), f8, pUp_s, g5 10 2 (by omega) (by omega), kf 10 2 (by decide) (by decide), k3 10 2 (by decide)]
        · rw [g14 10 3 (by omega), f13, pUp_s, f12, pUp_a (by decide), w10.2.2 13 3 (by decide) (by omega) (by omega), f9, pUp_s, f8, pUp_a (by decide), g5 10 3 (by omega) (by omega), kf 10 3 (by decide) (by decide), k3 10 3 (by decide)]
      · -- all are done
        have hF10 := w10.2.1
        have g11 : ∀ a k, ¬ (a = 0 ∧ k = 16) → F11 a k = F10 a k := fun a k q => by rw [f11]; unfold pUp; rw [if_neg (by omega)]
        have f273 : F11 27 3 = F10 27 3 := g11 27 3 (by omega)
        refine hB F11 E10 T t' C N s' ⟨fun r a1 a2 a3 a4 a5 a6 a7 a8 a9 a10 a11 => ?_, by rw [f11]; exact hF10.up (by decide), fun a k b1 b2 b3 b4 b5 b6 b7 b8 => ?_⟩ (tk8 F10 E10 w10) t0 t1 (tx8 F10 E10 w10) (by rw [f273]; exact kl8 F10 E10 w10) oo sk ?_ ?_ ?_ ?_ ?_ ?_
        · rw [w10.1 r a1 a2 a3 a8 a9 a10 (by omega) (by omega) (by omega), er r a4 a5 a6 a7]
        · rw [g11 a k (by omega), w10.2.2 a k b3 b5 (by omega), fr a k b1 b2 b4 b6 (by omega) b8]
        · rw [g11 0 17 (by omega), w10.2.2 0 17 (by decide) (by omega) (by omega), g9 0 17 (by omega), f5, pUp_a (by decide)]; exact v17
        · rw [g11 22 1 (by omega), w10.2.2 22 1 (by decide) (by omega) (by omega), g9 22 1 (by omega), f5, pUp_s]
        · rw [f11, pUp_s]
        · rw [g11 44 5 (by omega)]; exact v5
        · rw [w10.1 49 (by decide) (by decide) (by decide) (by decide) (by decide) (by decide) (by decide) (by decide) (by decide)]; exact e49
        · obtain ⟨q1, q2, q3, q4, q5⟩ := co10
          exact ⟨q1, by rw [g11 10 2 (by omega), g11 10 3 (by omega)]; exact q2, by rw [g11 10 2 (by omega), g11 10 3 (by omega)]; exact q3, by rw [g11 44 3 (by omega)]; exact q4, by rw [g11 44 4 (by omega)]; exact q5⟩
  exact rd
end C
