-- ===== more acts, as pairs over the state
theorem ex_place : exS true 95 199 (lwI 3) := exS_of (fun W_ V h_ as_ B_ K_ H_ hp => by
  obtain ⟨z_, b0, rfl, hp0⟩ := laS hp
  obtain ⟨k_, b1, rfl, hp1⟩ := laS hp0
  obtain ⟨q_, b2, rfl, hp2⟩ := laS hp1
  have eZ := la0 hp2
  subst eZ
  refine ⟨placeF W_ V z_ k_ q_, ok_place K_ z_ k_ q_, ?_, fun hh Bh Hh => ?_⟩
  · obtain ⟨h1, m_, q_, r_⟩ := x_place (z_ := z_) (k_ := k_) (q_ := q_) B_ K_ H_
    exact ⟨h1, m_, q_, r_ 999 (by omega)⟩
  · obtain ⟨h2, m2_, q2_, r2⟩ := m_place (z_ := z_) (k_ := k_) (q_ := q_) Bh K_ Hh
    exact ⟨h2, m2_, q2_, r2 999 (by omega)⟩)
