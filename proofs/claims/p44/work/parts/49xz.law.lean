-- ===== the acts, as pairs over the state
theorem ex_call : exS true 74 159 (lwI 0) := exS_of (fun W_ V h_ as_ B_ K_ H_ hp => by
  have eZ := la0 hp
  subst eZ
  refine ⟨callF W_ V, ok_call K_, ?_, fun hh Bh Hh => ?_⟩
  · obtain ⟨h1, m_, q_, r_⟩ := x_call  B_ K_ H_
    exact ⟨h1, m_, q_, r_ 999 (by omega)⟩
  · obtain ⟨h2, m2_, q2_, r2⟩ := m_call  Bh K_ Hh
    exact ⟨h2, m2_, q2_, r2 999 (by omega)⟩)
theorem ex_sound : exS true 75 160 (lwI 2) := exS_of (fun W_ V h_ as_ B_ K_ H_ hp => by
  obtain ⟨z_, b0, rfl, hp0⟩ := laS hp
  obtain ⟨s_, b1, rfl, hp1⟩ := laS hp0
  have eZ := la0 hp1
  subst eZ
  refine ⟨soundF W_ V z_ s_, ok_sound K_ z_ s_, ?_, fun hh Bh Hh => ?_⟩
  · obtain ⟨h1, m_, q_, r_⟩ := x_sound (z_ := z_) (s_ := s_) B_ K_ H_
    exact ⟨h1, m_, q_, r_ 999 (by omega)⟩
  · obtain ⟨h2, m2_, q2_, r2⟩ := m_sound (z_ := z_) (s_ := s_) Bh K_ Hh
    exact ⟨h2, m2_, q2_, r2 999 (by omega)⟩)
theorem ex_hush : exS true 77 163 (lwI 1) := exS_of (fun W_ V h_ as_ B_ K_ H_ hp => by
  obtain ⟨z_, b0, rfl, hp0⟩ := laS hp
  have eZ := la0 hp0
  subst eZ
  refine ⟨hushF W_ V z_, ok_hush K_ z_, ?_, fun hh Bh Hh => ?_⟩
  · obtain ⟨h1, m_, q_, r_⟩ := x_hush (z_ := z_) B_ K_ H_
    exact ⟨h1, m_, q_, r_ 999 (by omega)⟩
  · obtain ⟨h2, m2_, q2_, r2⟩ := m_hush (z_ := z_) Bh K_ Hh
    exact ⟨h2, m2_, q2_, r2 999 (by omega)⟩)
theorem ex_draw : exS true 78 165 (lwI 2) := exS_of (fun W_ V h_ as_ B_ K_ H_ hp => by
  obtain ⟨z_, b0, rfl, hp0⟩ := laS hp
  obtain ⟨n_, b1, rfl, hp1⟩ := laS hp0
  have eZ := la0 hp1
  subst eZ
  refine ⟨drawF W_ V z_ n_, ok_draw K_ z_ n_, ?_, fun hh Bh Hh => ?_⟩
  · obtain ⟨h1, m_, q_, r_⟩ := x_draw (z_ := z_) (n_ := n_) B_ K_ H_
    exact ⟨h1, m_, q_, r_ 999 (by omega)⟩
  · obtain ⟨h2, m2_, q2_, r2⟩ := m_draw (z_ := z_) (n_ := n_) Bh K_ Hh
    exact ⟨h2, m2_, q2_, r2 999 (by omega)⟩)
theorem ex_rock : exS true 80 167 (lwI 2) := exS_of (fun W_ V h_ as_ B_ K_ H_ hp => by
  obtain ⟨z_, b0, rfl, hp0⟩ := laS hp
  obtain ⟨d_, b1, rfl, hp1⟩ := laS hp0
  have eZ := la0 hp1
  subst eZ
  refine ⟨rockF W_ V z_ d_, ok_rock K_ z_ d_, ?_, fun hh Bh Hh => ?_⟩
  · obtain ⟨h1, m_, q_, r_⟩ := x_rock (z_ := z_) (d_ := d_) B_ K_ H_
    exact ⟨h1, m_, q_, r_ 999 (by omega)⟩
  · obtain ⟨h2, m2_, q2_, r2⟩ := m_rock (z_ := z_) (d_ := d_) Bh K_ Hh
    exact ⟨h2, m2_, q2_, r2 999 (by omega)⟩)
theorem ex_set : exS true 83 171 (lwI 3) := exS_of (fun W_ V h_ as_ B_ K_ H_ hp => by
  obtain ⟨r_, b0, rfl, hp0⟩ := laS hp
  obtain ⟨a_, b1, rfl, hp1⟩ := laS hp0
  obtain ⟨b_, b2, rfl, hp2⟩ := laS hp1
  have eZ := la0 hp2
  subst eZ
  refine ⟨setF W_ V r_ a_ b_, ok_set K_ r_ a_ b_, ?_, fun hh Bh Hh => ?_⟩
  · obtain ⟨h1, m_, q_, r_⟩ := x_set (r_ := r_) (a_ := a_) (b_ := b_) B_ K_ H_
    exact ⟨h1, m_, q_, r_ 999 (by omega)⟩
  · obtain ⟨h2, m2_, q2_, r2⟩ := m_set (r_ := r_) (a_ := a_) (b_ := b_) Bh K_ Hh
    exact ⟨h2, m2_, q2_, r2 999 (by omega)⟩)
theorem ex_text : exS true 85 184 (lwI 1) := exS_of (fun W_ V h_ as_ B_ K_ H_ hp => by
  obtain ⟨z_, b0, rfl, hp0⟩ := laS hp
  have eZ := la0 hp0
  subst eZ
  refine ⟨textF W_ V z_, ok_text K_ z_, ?_, fun hh Bh Hh => ?_⟩
  · obtain ⟨h1, m_, q_, r_⟩ := x_text (z_ := z_) B_ K_ H_
    exact ⟨h1, m_, q_, r_ 999 (by omega)⟩
  · obtain ⟨h2, m2_, q2_, r2⟩ := m_text (z_ := z_) Bh K_ Hh
    exact ⟨h2, m2_, q2_, r2 999 (by omega)⟩)
theorem ex_untell : exS true 86 185 (lwI 1) := exS_of (fun W_ V h_ as_ B_ K_ H_ hp => by
  obtain ⟨z_, b0, rfl, hp0⟩ := laS hp
  have eZ := la0 hp0
  subst eZ
  refine ⟨untellF W_ V z_, ok_untell K_ z_, ?_, fun hh Bh Hh => ?_⟩
  · obtain ⟨h1, m_, q_, r_⟩ := x_untell (z_ := z_) B_ K_ H_
    exact ⟨h1, m_, q_, r_ 999 (by omega)⟩
  · obtain ⟨h2, m2_, q2_, r2⟩ := m_untell (z_ := z_) Bh K_ Hh
    exact ⟨h2, m2_, q2_, r2 999 (by omega)⟩)
theorem ex_echo : exS true 90 191 (lwI 3) := exS_of (fun W_ V h_ as_ B_ K_ H_ hp => by
  obtain ⟨z_, b0, rfl, hp0⟩ := laS hp
  obtain ⟨d_, b1, rfl, hp1⟩ := laS hp0
  obtain ⟨i_, b2, rfl, hp2⟩ := laS hp1
  have eZ := la0 hp2
  subst eZ
  obtain ⟨h1, m_, q_, r_⟩ := x_echo (z_ := z_) (d_ := d_) (i_ := i_) B_ K_ H_
  refine ⟨echoF W_ V z_ d_ i_, ok_echo K_ z_ d_ i_ q_, ⟨h1, m_, q_, r_ 999 (by omega)⟩, fun hh Bh Hh => ?_⟩
  · obtain ⟨h2, m2_, q2_, r2⟩ := m_echo (z_ := z_) (d_ := d_) (i_ := i_) Bh K_ Hh
    exact ⟨h2, m2_, q2_, r2 999 (by omega)⟩)
theorem ex_so : exS true 99 207 (lwI 1) := exS_of (fun W_ V h_ as_ B_ K_ H_ hp => by
  obtain ⟨z_, b0, rfl, hp0⟩ := laS hp
  have eZ := la0 hp0
  subst eZ
  refine ⟨soF W_ V z_, ok_so K_ z_, ?_, fun hh Bh Hh => ?_⟩
  · obtain ⟨h1, m_, q_, r_⟩ := x_so (z_ := z_) B_ K_ H_
    exact ⟨h1, m_, q_, r_ 999 (by omega)⟩
  · obtain ⟨h2, m2_, q2_, r2⟩ := m_so (z_ := z_) Bh K_ Hh
    exact ⟨h2, m2_, q2_, r2 999 (by omega)⟩)
theorem ex_seed : exS true 105 217 (lwI 1) := exS_of (fun W_ V h_ as_ B_ K_ H_ hp => by
  obtain ⟨z_, b0, rfl, hp0⟩ := laS hp
  have eZ := la0 hp0
  subst eZ
  refine ⟨seedF W_ V z_, okS_z K_ z_, ?_, fun hh Bh Hh => ?_⟩
  · obtain ⟨h1, m_, q_, r_⟩ := x_seed (z_ := z_) B_ K_ H_
    exact ⟨h1, m_, q_, r_ 999 (by omega)⟩
  · obtain ⟨h2, m2_, q2_, r2⟩ := m_seed (z_ := z_) Bh K_ Hh
    exact ⟨h2, m2_, q2_, r2 999 (by omega)⟩)
theorem ex_sheet : exS true 108 228 (lwI 3) := exS_of (fun W_ V h_ as_ B_ K_ H_ hp => by
  obtain ⟨z_, b0, rfl, hp0⟩ := laS hp
  obtain ⟨b_, b1, rfl, hp1⟩ := laS hp0
  obtain ⟨n_, b2, rfl, hp2⟩ := laS hp1
  have eZ := la0 hp2
  subst eZ
  refine ⟨sheetF W_ V z_ b_ n_, ok_sheet K_ z_ b_ n_, ?_, fun hh Bh Hh => ?_⟩
  · obtain ⟨h1, m_, q_, r_⟩ := x_sheet (z_ := z_) (b_ := b_) (n_ := n_) B_ K_ H_
    exact ⟨h1, m_, q_, r_ 999 (by omega)⟩
  · obtain ⟨h2, m2_, q2_, r2⟩ := m_sheet (z_ := z_) (b_ := b_) (n_ := n_) Bh K_ Hh
    exact ⟨h2, m2_, q2_, r2 999 (by omega)⟩)
theorem ex_put : exS true 109 229 (lwI 3) := exS_of (fun W_ V h_ as_ B_ K_ H_ hp => by
  obtain ⟨z_, b0, rfl, hp0⟩ := laS hp
  obtain ⟨i_, b1, rfl, hp1⟩ := laS hp0
  obtain ⟨d_, b2, rfl, hp2⟩ := laS hp1
  have eZ := la0 hp2
  subst eZ
  refine ⟨putF W_ V z_ i_ d_, ok_put K_ z_ i_ d_, ?_, fun hh Bh Hh => ?_⟩
  · obtain ⟨h1, m_, q_, r_⟩ := x_put (z_ := z_) (i_ := i_) (d_ := d_) B_ K_ H_
    exact ⟨h1, m_, q_, r_ 999 (by omega)⟩
  · obtain ⟨h2, m2_, q2_, r2⟩ := m_put (z_ := z_) (i_ := i_) (d_ := d_) Bh K_ Hh
    exact ⟨h2, m2_, q2_, r2 999 (by omega)⟩)
theorem ex_move : exS true 110 230 (lwI 5) := exS_of (fun W_ V h_ as_ B_ K_ H_ hp => by
  obtain ⟨z_, b0, rfl, hp0⟩ := laS hp
  obtain ⟨i_, b1, rfl, hp1⟩ := laS hp0
  obtain ⟨d_, b2, rfl, hp2⟩ := laS hp1
  obtain ⟨j_, b3, rfl, hp3⟩ := laS hp2
  obtain ⟨n_, b4, rfl, hp4⟩ := laS hp3
  have eZ := la0 hp4
  subst eZ
  refine ⟨moveF W_ V z_ i_ d_ j_ n_, ok_move K_ z_ i_ d_ j_ n_, ?_, fun hh Bh Hh => ?_⟩
  · obtain ⟨h1, m_, q_, r_⟩ := x_move (z_ := z_) (i_ := i_) (d_ := d_) (j_ := j_) (n_ := n_) B_ K_ H_
    exact ⟨h1, m_, q_, r_ 999 (by omega)⟩
  · obtain ⟨h2, m2_, q2_, r2⟩ := m_move (z_ := z_) (i_ := i_) (d_ := d_) (j_ := j_) (n_ := n_) Bh K_ Hh
    exact ⟨h2, m2_, q2_, r2 999 (by omega)⟩)
theorem ex_sounds : exS true 111 231 (lwI 2) := exS_of (fun W_ V h_ as_ B_ K_ H_ hp => by
  obtain ⟨z_, b0, rfl, hp0⟩ := laS hp
  obtain ⟨c_, b1, rfl, hp1⟩ := laS hp0
  have eZ := la0 hp1
  subst eZ
  refine ⟨soundsF W_ V z_ c_, ok_sounds K_ z_ c_, ?_, fun hh Bh Hh => ?_⟩
  · obtain ⟨h1, m_, q_, r_⟩ := x_sounds (z_ := z_) (c_ := c_) B_ K_ H_
    exact ⟨h1, m_, q_, r_ 999 (by omega)⟩
  · obtain ⟨h2, m2_, q2_, r2⟩ := m_sounds (z_ := z_) (c_ := c_) Bh K_ Hh
    exact ⟨h2, m2_, q2_, r2 999 (by omega)⟩)
theorem ex_tell : exS true 114 234 (lwI 1) := exS_of (fun W_ V h_ as_ B_ K_ H_ hp => by
  obtain ⟨z_, b0, rfl, hp0⟩ := laS hp
  have eZ := la0 hp0
  subst eZ
  refine ⟨tellF W_ V z_, ok_tell K_ z_, ?_, fun hh Bh Hh => ?_⟩
  · obtain ⟨h1, m_, q_, r_⟩ := x_tell (z_ := z_) B_ K_ H_
    exact ⟨h1, m_, q_, r_ 999 (by omega)⟩
  · obtain ⟨h2, m2_, q2_, r2⟩ := m_tell (z_ := z_) Bh K_ Hh
    exact ⟨h2, m2_, q2_, r2 999 (by omega)⟩)
theorem ex_soundOf : exS true 76 162 (lwI 2) := exS_of (fun W_ V h_ as_ B_ K_ H_ hp => by
  obtain ⟨z_, b0, rfl, hp0⟩ := laS hp
  obtain ⟨i_, b1, rfl, hp1⟩ := laS hp0
  have eZ := la0 hp1
  subst eZ
  refine ⟨soundOfF W_ V z_ i_, ok_soundOf K_ z_ i_, ?_, fun hh Bh Hh => ?_⟩
  · obtain ⟨h1, m_, q_, r_⟩ := x_soundOf (z_ := z_) (i_ := i_) B_ K_ H_
    exact ⟨h1, m_, q_, r_ 999 (by omega)⟩
  · obtain ⟨h2, m2_, q2_, r2⟩ := m_soundOf (z_ := z_) (i_ := i_) Bh K_ Hh
    exact ⟨h2, m2_, q2_, r2 999 (by omega)⟩)
theorem ex_heard : exS true 87 188 (lwI 3) := exS_of (fun W_ V h_ as_ B_ K_ H_ hp => by
  obtain ⟨z_, b0, rfl, hp0⟩ := laS hp
  obtain ⟨d_, b1, rfl, hp1⟩ := laS hp0
  obtain ⟨i_, b2, rfl, hp2⟩ := laS hp1
  have eZ := la0 hp2
  subst eZ
  refine ⟨heardF W_ V z_ d_ i_, ok_heard K_ z_ d_ i_, ?_, fun hh Bh Hh => ?_⟩
  · obtain ⟨h1, m_, q_, r_⟩ := x_heard (z_ := z_) (d_ := d_) (i_ := i_) B_ K_ H_
    exact ⟨h1, m_, q_, r_ 999 (by omega)⟩
  · obtain ⟨h2, m2_, q2_, r2⟩ := m_heard (z_ := z_) (d_ := d_) (i_ := i_) Bh K_ Hh
    exact ⟨h2, m2_, q2_, r2 999 (by omega)⟩)
theorem ex_self : exS true 88 189 (lwI 2) := exS_of (fun W_ V h_ as_ B_ K_ H_ hp => by
  obtain ⟨z_, b0, rfl, hp0⟩ := laS hp
  obtain ⟨d_, b1, rfl, hp1⟩ := laS hp0
  have eZ := la0 hp1
  subst eZ
  refine ⟨selfF W_ V z_ d_, ok_self K_ z_ d_, ?_, fun hh Bh Hh => ?_⟩
  · obtain ⟨h1, m_, q_, r_⟩ := x_self (z_ := z_) (d_ := d_) B_ K_ H_
    exact ⟨h1, m_, q_, r_ 999 (by omega)⟩
  · obtain ⟨h2, m2_, q2_, r2⟩ := m_self (z_ := z_) (d_ := d_) Bh K_ Hh
    exact ⟨h2, m2_, q2_, r2 999 (by omega)⟩)
theorem ex_part : exS true 97 201 (lwI 3) := exS_of (fun W_ V h_ as_ B_ K_ H_ hp => by
  obtain ⟨z_, b0, rfl, hp0⟩ := laS hp
  obtain ⟨d_, b1, rfl, hp1⟩ := laS hp0
  obtain ⟨e_, b2, rfl, hp2⟩ := laS hp1
  have eZ := la0 hp2
  subst eZ
  refine ⟨partF W_ V z_ d_ e_, ok_part K_ z_ d_ e_, ?_, fun hh Bh Hh => ?_⟩
  · obtain ⟨h1, m_, q_, r_⟩ := x_part (z_ := z_) (d_ := d_) (e_ := e_) B_ K_ H_
    exact ⟨h1, m_, q_, r_ 999 (by omega)⟩
  · obtain ⟨h2, m2_, q2_, r2⟩ := m_part (z_ := z_) (d_ := d_) (e_ := e_) Bh K_ Hh
    exact ⟨h2, m2_, q2_, r2 999 (by omega)⟩)
theorem exT_check : exS true 115 235 (lwI 2) := exS_of (fun W_ V h_ as_ B_ K_ H_ hp => by
  obtain ⟨z_, b0, rfl, hp0⟩ := laS hp
  obtain ⟨d_, b1, rfl, hp1⟩ := laS hp0
  have eZ := la0 hp1
  subst eZ
  refine ⟨checkF W_ V z_ d_, ok_check K_ z_ d_, ?_, fun hh Bh Hh => ?_⟩
  · obtain ⟨h1, m_, q_, r_⟩ := xT_check (z_ := z_) (d_ := d_) B_ K_ H_
    exact ⟨h1, m_, q_, r_ 999 (by omega)⟩
  · obtain ⟨h2, m2_, q2_, r2⟩ := mT_check (z_ := z_) (d_ := d_) Bh K_ Hh
    exact ⟨h2, m2_, q2_, r2 999 (by omega)⟩)
-- mreA: 23 steps, 1 ends, 1 returns
def mreA_L : List (Nat × Nat × Nat) := []
def mreA_O : yO := [(338, .int 2, .arg 310), (338, .int 1, .index 340), (338, .int 0, .index 339), (338, .int 3, .index 341), (341, .int 2, .arg 400)]
def mreA_A : yA := (yZ mreA_L, [], [], [], [])
def mreA_C : List xB := []
def mreA_ss : List yS := [(21, [(0, .index 338)], [.index 339, .index 340], [(338, .int 2, .arg 310), (338, .int 1, .index 340), (338, .int 0, .index 339), (338, .int 3, .index 341), (341, .int 2, .arg 400)], [(.eq, .arg 310, .int 0, false)], [])]
def mreA_rs : List yR := [(some (.int (Int32.ofInt (-1000002))), [(341, .int 2, .add (.arg 400) (.int 1)), (338, .int 2, .arg 310), (338, .int 1, .index 340), (338, .int 0, .index 339), (338, .int 3, .index 341)], [(.eq, .arg 310, .int 0, true)], [(341, .int 2)])]
theorem mreA_w : ywa mreA_A mreA_ss mreA_rs = true := by decide +kernel
theorem mreA_k : yis (yev mreA_A 3000 60 233 [21] (0, [(0, .index 338)], [], mreA_O, mreA_C, [])) mreA_ss mreA_rs = true := by decide +kernel
def mreA_r (v310 v400 : Int32) (k_ : Nat) : Value := bif Nat.beq k_ 310 then .int v310 else (bif Nat.beq k_ 400 then .int v400 else (.int 0))
def mreA_s (n_ : Nat) : Nat := 0
theorem mreA {h_ : xH} {v310 v400 : Int32} (hs : sHp h_) (o0_ : bpat h_ 338 2 = some (.int v310)) (o1 : bpat h_ 341 2 = some (.int v400)) : ∃ h', ysm h_ h' ∧ (((¬ v310 = (0 : Int32)) ∧ (∀ a_ j_ : Nat, bpat h' a_ j_ = bpat h_ a_ j_) ∧ (bldD 60 233 0 [(0, .index 338)] [] h_ 21 [(0, .index 338)] [.index 339, .index 340] h'))
  ∨ ((v310 = (0 : Int32)) ∧ (bpat h' 341 2 = some (.int (v400 + (1 : Int32)))) ∧ (∀ a_ j_ : Nat, ¬ (a_ = 341 ∧ j_ = 2) → bpat h' a_ j_ = bpat h_ a_ j_) ∧ (∀ D_, 60 ≤ D_ → xrun D_ 233 0 [(0, .index 338)] [] h_ (some (.int (Int32.ofInt (-1000002))), h', [])))) := by
  have hA : yas mreA_A (mreA_r v310 v400) (yg mreA_s) := ⟨fun q_ hq => absurd hq List.not_mem_nil, fun q_ hq => absurd hq List.not_mem_nil, fun q_ hq => absurd hq List.not_mem_nil, fun n_ hn => yg_lo hn, fun q_ hq => absurd hq List.not_mem_nil⟩
  have Hs : ysh mreA_A.1 (yg mreA_s) h_ := ysh_of2 hs (fun q_ hq => absurd hq List.not_mem_nil)
  have Ho : ymem (mreA_r v310 v400) (yg mreA_s) mreA_O h_ := List.forall_mem_cons.mpr ⟨bpat_some o0_, List.forall_mem_cons.mpr ⟨bpat_some (fxr_at hs.2 (show fxk fxl 338 1 = some 340 by decide +kernel)), List.forall_mem_cons.mpr ⟨bpat_some (fxr_at hs.2 (show fxk fxl 338 0 = some 339 by decide +kernel)), List.forall_mem_cons.mpr ⟨bpat_some (fxr_at hs.2 (show fxk fxl 338 3 = some 341 by decide +kernel)), List.forall_mem_cons.mpr ⟨bpat_some o1, fun q_ hq => absurd hq List.not_mem_nil⟩⟩⟩⟩⟩
  have HC : ∀ q_ ∈ mreA_C, xhold (mreA_r v310 v400) q_ := fun q_ hq => absurd hq List.not_mem_nil
  rcases yrun (yis_ok mreA_k) hA Hs Ho HC with ⟨q_, hq, h', K_, G_⟩ | ⟨q_, hq, h', K_, G_⟩
  · have e_ := List.mem_singleton.mp hq
    subst e_
    exact ⟨h', yfr_sm K_.2.2.2 hs K_.1 (ywa_s mreA_w List.mem_cons_self), Or.inl (⟨xq_eqF rfl rfl (K_.2.2.1 _ List.mem_cons_self), fun a_ j_ => yfr_bp K_.2.2.2 (fun q_ hq => absurd hq List.not_mem_nil), G_⟩)⟩
  · have e_ := List.mem_singleton.mp hq
    subst e_
    exact ⟨h', yfr_sm K_.2.2.2 hs K_.1 (ywa_r mreA_w List.mem_cons_self), Or.inr (⟨xq_eqT rfl rfl (K_.2.2.1 _ List.mem_cons_self), bpat_of (K_.2.1 _ List.mem_cons_self), fun a_ j_ n0_ => yfr_bp K_.2.2.2 (List.forall_mem_cons.mpr ⟨fun e_ => n0_ ⟨e_.1.symm, e_.2.symm⟩, fun q_ hq => absurd hq List.not_mem_nil⟩), G_⟩)⟩
theorem ex_image : exS true 112 232 (lwI 0) := by
  intro W_ V h_ as_ B_ X_ K_ H_ hp
  have e_ := la0 hp
  subst e_
  obtain ⟨h1, m_, q_, r_⟩ := x_image B_ H_
  refine ⟨imW W_, imV V, V 200 + 1, h1, okS_im K_, r_ 999 (by omega), fun _ => q_, fun hh Bh Xh Hh => ?_⟩
  obtain ⟨h2, r2, q2_⟩ := m_image Bh Hh
  exact ⟨V 200 + 1, h2, r2 999 (by omega), q2_, fun _ => rfl⟩
theorem ex_restore : exS false 113 233 (lwI 0) := by
  intro W_ V h_ as_ B_ X_ K_ H_ hp
  have e_ := la0 hp
  subst e_
  obtain ⟨y_, h1, m_, q_, r_⟩ := x_restore B_ H_
  by_cases g_ : V 200 = 0
  · rw [if_pos g_, if_pos g_] at q_
    refine ⟨W_, V, y_, h1, K_, r_ 999 (by omega), fun _ => q_, fun hh Bh Xh Hh => ?_⟩
    obtain ⟨ye, oe⟩ := merr (k_ := 2) Bh (by omega)
    obtain ⟨h2, m2_, e_⟩ := mreA Hh.1 Hh.2.2.2.1 oe
    rcases e_ with ⟨g1, f0_, ld0⟩ | ⟨g1, w0_, f0_, r0⟩
    · exact absurd g_ g1
    · exact ⟨_, h2, r0 999 (by omega), fun _ => SM_e Hh m2_ f0_, fun e_ => by cases e_⟩
  · rw [if_neg g_, if_neg g_] at q_
    refine ⟨rsW W_, rsV V, y_, h1, okS_rs K_, r_ 999 (by omega), fun _ => q_, fun hh Bh Xh Hh => ?_⟩
    obtain ⟨y2, h2, r2, q2_⟩ := m_restore Bh Hh g_
    exact ⟨y2, h2, r2 999 (by omega), q2_, fun e_ => by cases e_⟩
theorem laF {as_ : List Jvm.Term} (h_ : bPs lwFe as_) : ∃ (X_ : Int64) (n_ : Int32), as_ = [.long X_, .int n_] := by
  cases as_ with
  | nil => exact absurd h_ id
  | cons t_ u_ =>
    obtain ⟨⟨X_, rfl⟩, h2⟩ := h_
    cases u_ with
    | nil => exact absurd h2 id
    | cons t2_ u2_ =>
      obtain ⟨⟨n_, rfl, -⟩, h3⟩ := h2
      cases u2_ with
      | nil => exact ⟨X_, n_, rfl⟩
      | cons t3_ u3 => exact absurd h3 id
theorem ex_feed : exS true 84 172 lwFe := exS_of (fun W_ V h_ as_ B_ K_ H_ hp => by
  obtain ⟨X_, n_, rfl⟩ := laF hp
  refine ⟨feedF W_ V X_ n_, ok_feed K_ X_ n_, ?_, fun hh Bh Hh => ?_⟩
  · obtain ⟨h1, m_, q_, r_⟩ := x_feed (X_ := X_) (n_ := n_) B_ K_ H_
    exact ⟨h1, m_, q_, r_ 999 (by omega)⟩
  · obtain ⟨h2, m2_, q2_, r2⟩ := m_feed (X_ := X_) (n_ := n_) Bh K_ Hh
    exact ⟨h2, m2_, q2_, r2 999 (by omega)⟩)
