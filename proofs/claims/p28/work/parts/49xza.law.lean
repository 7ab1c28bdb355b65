-- ===== more acts, as pairs over the state
theorem ex_takes : exS true 89 190 (lwI 1) := exS_of (fun W_ V h_ as_ B_ K_ H_ hp => by
  obtain ⟨d_, b0, rfl, hp0⟩ := laS hp
  have eZ := la0 hp0
  subst eZ
  refine ⟨takesF W_ V d_, ok_takes K_ d_, ?_, fun hh Bh Hh => ?_⟩
  · obtain ⟨h1, m_, q_, r_⟩ := x_takes (d_ := d_) B_ K_ H_
    exact ⟨h1, m_, q_, r_ 999 (by omega)⟩
  · obtain ⟨h2, m2_, q2_, r2⟩ := m_takes (d_ := d_) Bh K_ Hh
    exact ⟨h2, m2_, q2_, r2 999 (by omega)⟩)
theorem ex_need : exS true 93 195 (lwI 3) := exS_of (fun W_ V h_ as_ B_ K_ H_ hp => by
  obtain ⟨z_, b0, rfl, hp0⟩ := laS hp
  obtain ⟨d_, b1, rfl, hp1⟩ := laS hp0
  obtain ⟨i_, b2, rfl, hp2⟩ := laS hp1
  have eZ := la0 hp2
  subst eZ
  refine ⟨needF W_ V z_ d_ i_, ok_need K_ z_ d_ i_, ?_, fun hh Bh Hh => ?_⟩
  · obtain ⟨h1, m_, q_, r_⟩ := x_need (z_ := z_) (d_ := d_) (i_ := i_) B_ K_ H_
    exact ⟨h1, m_, q_, r_ 999 (by omega)⟩
  · obtain ⟨h2, m2_, q2_, r2⟩ := m_need (z_ := z_) (d_ := d_) (i_ := i_) Bh K_ Hh
    exact ⟨h2, m2_, q2_, r2 999 (by omega)⟩)
theorem ex_safe : exS true 96 200 (lwI 2) := exS_of (fun W_ V h_ as_ B_ K_ H_ hp => by
  obtain ⟨z_, b0, rfl, hp0⟩ := laS hp
  obtain ⟨d_, b1, rfl, hp1⟩ := laS hp0
  have eZ := la0 hp1
  subst eZ
  refine ⟨safeF W_ V z_ d_, ok_safe K_ z_ d_, ?_, fun hh Bh Hh => ?_⟩
  · obtain ⟨h1, m_, q_, r_⟩ := x_safe (z_ := z_) (d_ := d_) B_ K_ H_
    exact ⟨h1, m_, q_, r_ 999 (by omega)⟩
  · obtain ⟨h2, m2_, q2_, r2⟩ := m_safe (z_ := z_) (d_ := d_) Bh K_ Hh
    exact ⟨h2, m2_, q2_, r2 999 (by omega)⟩)
theorem ex_ways : exS true 92 194 (lwI 3) := exS_of (fun W_ V h_ as_ B_ K_ H_ hp => by
  obtain ⟨z_, b0, rfl, hp0⟩ := laS hp
  obtain ⟨y_, b1, rfl, hp1⟩ := laS hp0
  obtain ⟨k_, b2, rfl, hp2⟩ := laS hp1
  have eZ := la0 hp2
  subst eZ
  refine ⟨waysF W_ V z_ y_ k_, ok_ways K_ z_ y_ k_, ?_, fun hh Bh Hh => ?_⟩
  · obtain ⟨h1, m_, q_, r_⟩ := x_ways (z_ := z_) (y_ := y_) (k_ := k_) B_ K_ H_
    exact ⟨h1, m_, q_, r_ 999 (by omega)⟩
  · obtain ⟨h2, m2_, q2_, r2⟩ := m_ways (z_ := z_) (y_ := y_) (k_ := k_) Bh K_ Hh
    exact ⟨h2, m2_, q2_, r2 999 (by omega)⟩)
theorem ex_bargain : exS true 104 216 (lwI 5) := exS_of (fun W_ V h_ as_ B_ K_ H_ hp => by
  obtain ⟨x1_, b0, rfl, hp0⟩ := laS hp
  obtain ⟨z_, b1, rfl, hp1⟩ := laS hp0
  obtain ⟨y_, b2, rfl, hp2⟩ := laS hp1
  obtain ⟨nn, b3, rfl, hp3⟩ := laS hp2
  obtain ⟨q_, b4, rfl, hp4⟩ := laS hp3
  have eZ := la0 hp4
  subst eZ
  refine ⟨bargainF W_ V x1_ z_ y_ nn q_, ok_bargain K_ x1_ z_ y_ nn q_, ?_, fun hh Bh Hh => ?_⟩
  · obtain ⟨h1, m_, q_, r_⟩ := x_bargain (x1_ := x1_) (z_ := z_) (y_ := y_) (nn := nn) (q_ := q_) B_ K_ H_
    exact ⟨h1, m_, q_, r_ 999 (by omega)⟩
  · obtain ⟨h2, m2_, q2_, r2⟩ := m_bargain (x1_ := x1_) (z_ := z_) (y_ := y_) (nn := nn) (q_ := q_) Bh K_ Hh
    exact ⟨h2, m2_, q2_, r2 999 (by omega)⟩)
theorem ex_reads : exS true 98 206 (lwI 1) := exS_of (fun W_ V h_ as_ B_ K_ H_ hp => by
  obtain ⟨z_, b0, rfl, hp0⟩ := laS hp
  have eZ := la0 hp0
  subst eZ
  refine ⟨readsF W_ V z_, ok_reads K_ z_, ?_, fun hh Bh Hh => ?_⟩
  · obtain ⟨h1, m_, q_, r_⟩ := x_reads (z_ := z_) B_ K_ H_
    exact ⟨h1, m_, q_, r_ 999 (by omega)⟩
  · obtain ⟨h2, m2_, q2_, r2⟩ := m_reads (z_ := z_) Bh K_ Hh
    exact ⟨h2, m2_, q2_, r2 999 (by omega)⟩)
