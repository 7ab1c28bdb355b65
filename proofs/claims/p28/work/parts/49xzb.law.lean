-- ===== more acts, as pairs over the state
theorem ex_says : exS true 100 208 (lwI 2) := exS_of (fun W_ V h_ as_ B_ K_ H_ hp => by
  obtain ⟨z_, b0, rfl, hp0⟩ := laS hp
  obtain ⟨d_, b1, rfl, hp1⟩ := laS hp0
  have eZ := la0 hp1
  subst eZ
  refine ⟨saysF W_ V z_ d_, ok_says K_ z_ d_, ?_, fun hh Bh Hh => ?_⟩
  · obtain ⟨h1, m_, q_, r_⟩ := x_says (z_ := z_) (d_ := d_) B_ K_ H_
    exact ⟨h1, m_, q_, r_ 999 (by omega)⟩
  · obtain ⟨h2, m2_, q2_, r2⟩ := m_says (z_ := z_) (d_ := d_) Bh K_ Hh
    exact ⟨h2, m2_, q2_, r2 999 (by omega)⟩)
