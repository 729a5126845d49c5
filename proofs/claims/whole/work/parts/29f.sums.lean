/-! SUMS in the class, at all depths -/
theorem c_sums {l : Launch} {G : pG} {lw : Bool} (k : Nat) : ∀ (dd : Int) (d : Nat), dd + k = 8 → 0 ≤ dd → 15 + 3 * k ≤ d → CC lw l G 3 dd d mX5_readSum := by
  induction k with
  | zero =>
    intro dd d e d0 hd
    exact c_readSum (e := d - 1) (by omega) (by omega) (c_readTerm (e := d - 2) (by omega) (by omega) (c_readPart (e := d - 3) d0 (by omega) (by omega) (by omega) (fun z => absurd z (by omega))))
  | succ k ih =>
    intro dd d e d0 hd
    exact c_readSum (e := d - 1) (by omega) (by omega) (c_readTerm (e := d - 2) (by omega) (by omega) (c_readPart (e := d - 3) d0 (by omega) (by omega) (by omega) (fun _ => ih (dd + 1) (d - 3) (by omega) (by omega) (by omega))))
