-- ===== more acts, as pairs over the state
theorem ex_meant : exS true 94 197 (lwI 2) := exS_of (fun W_ V h_ as_ B_ K_ H_ hp => by
  obtain ⟨z_, b0, rfl, hp0⟩ := laS hp
  obtain ⟨k_, b1, rfl, hp1⟩ := laS hp0
  have eZ := la0 hp1
  subst eZ
  refine ⟨meantF W_ V z_ k_, ok_meant K_ z_ k_, ?_, fun hh Bh Hh => ?_⟩
  · obtain ⟨h1, m_, q_, r_⟩ := x_meant (z_ := z_) (k_ := k_) B_ K_ H_
    exact ⟨h1, m_, q_, r_ 999 (by omega)⟩
  · obtain ⟨h2, m2_, q2_, r2⟩ := m_meant (z_ := z_) (k_ := k_) Bh K_ Hh
    exact ⟨h2, m2_, q2_, r2 999 (by omega)⟩)
