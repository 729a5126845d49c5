/-! PAIRS that read one number -/
theorem two_strays {LR : tLR} {l : Launch} {G : pG} : Pair LR l G 0 mX11_strays (0, 0) 0 mX12_strays (0, 0) [] := by
  intro n K F E h
  have hK := h.KS
  refine vX11_strays_0 0 ⟨by rw [hK.k0], F 0 18, rfl, Out.refl, hK, vX12_strays_0 66 ⟨by rw [hK.k66], ?_⟩⟩
  intro F1 e1
  subst e1
  refine ⟨?_, Out.F, h.zero⟩
  rw [h.2.2.2.2.2.2.2.2.1.1]
theorem two_fault {LR : tLR} {l : Launch} {G : pG} : Pair LR l G 0 mX11_fault (0, 0) 0 mX12_fault (0, 0) [] := by
  intro n K F E h
  have hK := h.KS
  refine vX11_fault_0 0 ⟨by rw [hK.k0], F 0 17, rfl, Out.refl, hK, vX12_fault_0 66 ⟨by rw [hK.k66], ?_⟩⟩
  intro F1 e1
  subst e1
  refine ⟨?_, Out.F, h.zero⟩
  rw [h.2.2.2.2.2.2.2.2.1.2.1]
theorem two_stopped {LR : tLR} {l : Launch} {G : pG} : Pair LR l G 0 mX11_stopped (0, 0) 0 mX12_stopped (0, 0) [] := by
  intro n K F E h
  have hK := h.KS
  have hF := h.FS
  refine vX11_stopped_0 0 ?_
  rw [hF.f0_12]
  refine ⟨by rw [hK.k0], by rw [hK.k44], F 44 5, rfl, Out.refl, hK, vX12_stopped_0 66 ⟨by rw [hK.k66], ?_⟩⟩
  intro F1 e1
  subst e1
  refine ⟨?_, Out.F, h.zero⟩
  rw [h.2.2.2.2.2.2.2.2.1.2.2]
theorem two_deepest {LR : tLR} {l : Launch} {G : pG} : Pair LR l G 0 mX11_deepest (0, 0) 0 mX12_deepest (0, 0) [] := by
  intro n K F E h
  have hK := h.KS
  have hF := h.FS
  refine vX11_deepest_0 0 ?_
  rw [hF.f0_11]
  refine ⟨by rw [hK.k0], by rw [hK.k41], F 41 4, rfl, Out.refl, hK, vX12_deepest_0 66 ⟨by rw [hK.k66], ?_⟩⟩
  intro F1 e1
  subst e1
  refine ⟨?_, Out.F, h.zero⟩
  rw [h.2.2.2.2.2.2.1.2.2.1]
theorem two_status {LR : tLR} {l : Launch} {G : pG} : Pair LR l G 0 mX11_status (0, 0) 0 mX12_status (0, 0) [] := by
  intro n K F E h
  have hK := h.KS
  refine vX11_status_0 0 ⟨by rw [hK.k0], F 0 16, rfl, Out.refl, hK, vX12_status_0 66 ⟨by rw [hK.k66], ?_⟩⟩
  intro F1 e1
  subst e1
  refine ⟨?_, Out.F, h.zero⟩
  rw [h.2.2.2.2.2.2.2.1.1]
