def Call_singer : Prop := ∀ (x1 : Int32) (x2 : Int32) (x3 : Int32) (x4 : Int32) (x5 : Int32) (I : Nat → Nat → Int32) (mu : Nat → Nat), Rel I mu → ∃ v I1 I2, fX12_singer 0 x1 x2 x3 x4 x5 I (z_Rm mu) = some (v, I1) ∧ fX13_singer 102 x1 x2 x3 x4 x5 I1 (z_Rm mu) = some (v, I2) ∧ Rel I2 mu
theorem case_of_0 (H : Call_singer) : CaseOk fL_c0 := by
  intro xs L p I mu hL hp h
  unfold fL_c0
  rw [z_g_t (s_g (j := 1) 1 rfl hL hp (by decide)), z_g_t (s_g (j := 2) 2 rfl hL hp (by decide)), z_g_t (s_g (j := 3) 3 rfl hL hp (by decide)), z_g_t (s_g (j := 4) 4 rfl hL hp (by decide)), z_g_t (s_g (j := 5) 5 rfl hL hp (by decide))]
  obtain ⟨v, I1, I2, e1, e2, h2⟩ := H (xs (nI p + 1).toNatClampNeg) (xs (nI p + 2).toNatClampNeg) (xs (nI p + 3).toNatClampNeg) (xs (nI p + 4).toNatClampNeg) (xs (nI p + 5).toNatClampNeg) I mu h
  rw [e1, z_b_s]
  dsimp only
  rw [e2, z_b_s]
  rw [if_pos rfl, z_l_s, s_6]
  exact ⟨I2, mu, rfl, h2⟩
def Call_ears : Prop := ∀ (x1 : Int32) (I : Nat → Nat → Int32) (mu : Nat → Nat), Rel I mu → ∃ v I1 I2, fX12_ears 0 x1 I (z_Rm mu) = some (v, I1) ∧ fX13_ears 102 x1 I1 = some (v, I2) ∧ Rel I2 mu
theorem case_of_1 (H : Call_ears) : CaseOk fL_c1 := by
  intro xs L p I mu hL hp h
  unfold fL_c1
  rw [z_g_t (s_g (j := 1) 1 rfl hL hp (by decide))]
  obtain ⟨v, I1, I2, e1, e2, h2⟩ := H (xs (nI p + 1).toNatClampNeg) I mu h
  rw [e1, z_b_s]
  dsimp only
  rw [e2, z_b_s]
  rw [if_pos rfl, z_l_s, s_6]
  exact ⟨I2, mu, rfl, h2⟩
def Call_tempo : Prop := ∀ (x1 : Int32) (I : Nat → Nat → Int32) (mu : Nat → Nat), Rel I mu → ∃ v I1 I2, fX12_tempo 0 x1 I (z_Rm mu) = some (v, I1) ∧ fX13_tempo 102 x1 I1 = some (v, I2) ∧ Rel I2 mu
theorem case_of_2 (H : Call_tempo) : CaseOk fL_c2 := by
  intro xs L p I mu hL hp h
  unfold fL_c2
  rw [z_g_t (s_g (j := 1) 1 rfl hL hp (by decide))]
  obtain ⟨v, I1, I2, e1, e2, h2⟩ := H (xs (nI p + 1).toNatClampNeg) I mu h
  rw [e1, z_b_s]
  dsimp only
  rw [e2, z_b_s]
  rw [if_pos rfl, z_l_s, s_6]
  exact ⟨I2, mu, rfl, h2⟩
def Call_anew : Prop := ∀ (I : Nat → Nat → Int32) (mu : Nat → Nat), Rel I mu → ∃ v I1 I2, fX12_anew 0 I (z_Rm mu) = some (v, I1) ∧ fX13_anew 102 I1 (z_Rm mu) = some (v, I2) ∧ Rel I2 mu
theorem case_of_3 (H : Call_anew) : CaseOk fL_c3 := by
  intro xs L p I mu hL hp h
  unfold fL_c3
  obtain ⟨v, I1, I2, e1, e2, h2⟩ := H  I mu h
  rw [e1, z_b_s]
  dsimp only
  rw [e2, z_b_s]
  rw [if_pos rfl, z_l_s, s_6]
  exact ⟨I2, mu, rfl, h2⟩
def Call_feed : Prop := ∀ (x1 : Int32) (x2 : Int32) (x3 : Int32) (x4 : Int32) (x5 : Int32) (I : Nat → Nat → Int32) (mu : Nat → Nat), Rel I mu → ∃ v I1 I2, fX12_feed 0 x1 x2 x3 x4 x5 I (z_Rm mu) = some (v, I1) ∧ fX13_feed 102 x1 x2 x3 x4 x5 I1 (z_Rm mu) = some (v, I2) ∧ Rel I2 mu
theorem case_of_4 (H : Call_feed) : CaseOk fL_c4 := by
  intro xs L p I mu hL hp h
  unfold fL_c4
  rw [z_g_t (s_g (j := 1) 1 rfl hL hp (by decide)), z_g_t (s_g (j := 2) 2 rfl hL hp (by decide)), z_g_t (s_g (j := 3) 3 rfl hL hp (by decide)), z_g_t (s_g (j := 4) 4 rfl hL hp (by decide)), z_g_t (s_g (j := 5) 5 rfl hL hp (by decide))]
  obtain ⟨v, I1, I2, e1, e2, h2⟩ := H (xs (nI p + 1).toNatClampNeg) (xs (nI p + 2).toNatClampNeg) (xs (nI p + 3).toNatClampNeg) (xs (nI p + 4).toNatClampNeg) (xs (nI p + 5).toNatClampNeg) I mu h
  rw [e1, z_b_s]
  dsimp only
  rw [e2, z_b_s]
  rw [if_pos rfl, z_l_s, s_6]
  exact ⟨I2, mu, rfl, h2⟩
def Call_law : Prop := ∀ (x1 : Int32) (I : Nat → Nat → Int32) (mu : Nat → Nat), Rel I mu → ∃ v I1 mu' I2, fX12_law 0 x1 I (z_Rm mu) = some (v, I1, z_Rm mu') ∧ fX13_law 102 x1 I1 (z_Rm mu') = some (v, I2) ∧ Rel I2 mu'
theorem case_of_5 (H : Call_law) : CaseOk fL_c5 := by
  intro xs L p I mu hL hp h
  unfold fL_c5
  rw [z_g_t (s_g (j := 1) 1 rfl hL hp (by decide))]
  obtain ⟨v, I1, mu', I2, e1, e2, h2⟩ := H (xs (nI p + 1).toNatClampNeg) I mu h
  rw [e1, z_b_s]
  dsimp only
  rw [e2, z_b_s]
  rw [if_pos rfl, z_l_s, s_6]
  exact ⟨I2, mu', rfl, h2⟩
def Call_roll : Prop := ∀ (x1 : Int32) (x2 : Int32) (I : Nat → Nat → Int32) (mu : Nat → Nat), Rel I mu → ∃ v I1 mu' I2, fX12_roll 0 x1 x2 I (z_Rm mu) = some (v, I1, z_Rm mu') ∧ fX13_roll 102 x1 x2 I1 (z_Rm mu') = some (v, I2) ∧ Rel I2 mu'
theorem case_of_6 (H : Call_roll) : CaseOk fL_c6 := by
  intro xs L p I mu hL hp h
  unfold fL_c6
  rw [z_g_t (s_g (j := 1) 1 rfl hL hp (by decide)), z_g_t (s_g (j := 2) 2 rfl hL hp (by decide))]
  obtain ⟨v, I1, mu', I2, e1, e2, h2⟩ := H (xs (nI p + 1).toNatClampNeg) (xs (nI p + 2).toNatClampNeg) I mu h
  rw [e1, z_b_s]
  dsimp only
  rw [e2, z_b_s]
  rw [if_pos rfl, z_l_s, s_6]
  exact ⟨I2, mu', rfl, h2⟩
def Call_ticks : Prop := ∀ (x1 : Int32) (I : Nat → Nat → Int32) (mu : Nat → Nat), Rel I mu → ∃ v I1 I2, fX12_ticks 0 x1 I (z_Rm mu) = some (v, I1) ∧ fX13_ticks 102 x1 I1 (z_Rm mu) = some (v, I2) ∧ Rel I2 mu
theorem case_of_7 (H : Call_ticks) : CaseOk fL_c7 := by
  intro xs L p I mu hL hp h
  unfold fL_c7
  rw [z_g_t (s_g (j := 1) 1 rfl hL hp (by decide))]
  obtain ⟨v, I1, I2, e1, e2, h2⟩ := H (xs (nI p + 1).toNatClampNeg) I mu h
  rw [e1, z_b_s]
  dsimp only
  rw [e2, z_b_s]
  rw [if_pos rfl, z_l_s, s_6]
  exact ⟨I2, mu, rfl, h2⟩
def Call_tried : Prop := ∀ (x1 : Int32) (x2 : Int32) (I : Nat → Nat → Int32) (mu : Nat → Nat), Rel I mu → ∃ v I1 I2, fX12_tried 0 x1 x2 I (z_Rm mu) = some (v, I1) ∧ fX13_tried 102 x1 x2 I1 (z_Rm mu) = some (v, I2) ∧ Rel I2 mu
theorem case_of_8 (H : Call_tried) : CaseOk fL_c8 := by
  intro xs L p I mu hL hp h
  unfold fL_c8
  rw [z_g_t (s_g (j := 1) 1 rfl hL hp (by decide)), z_g_t (s_g (j := 2) 2 rfl hL hp (by decide))]
  obtain ⟨v, I1, I2, e1, e2, h2⟩ := H (xs (nI p + 1).toNatClampNeg) (xs (nI p + 2).toNatClampNeg) I mu h
  rw [e1, z_b_s]
  dsimp only
  rw [e2, z_b_s]
  rw [if_pos rfl, z_l_s, s_6]
  exact ⟨I2, mu, rfl, h2⟩
def Call_singerIs : Prop := ∀ (x1 : Int32) (x2 : Int32) (I : Nat → Nat → Int32) (mu : Nat → Nat), Rel I mu → ∃ v, fX12_singerIs 0 x1 x2 I (z_Rm mu) = some v ∧ fX13_singerIs 102 x1 x2 I (z_Rm mu) = some v ∧ Rel I mu
theorem case_of_9 (H : Call_singerIs) : CaseOk fL_c9 := by
  intro xs L p I mu hL hp h
  unfold fL_c9
  rw [z_g_t (s_g (j := 1) 1 rfl hL hp (by decide)), z_g_t (s_g (j := 2) 2 rfl hL hp (by decide))]
  obtain ⟨v, e1, e2, h2⟩ := H (xs (nI p + 1).toNatClampNeg) (xs (nI p + 2).toNatClampNeg) I mu h
  rw [e1, z_b_s]
  rw [e2, z_b_s]
  rw [if_pos rfl, z_l_s, s_6]
  exact ⟨I, mu, rfl, h2⟩
def Call_drift : Prop := ∀ (x1 : Int32) (I : Nat → Nat → Int32) (mu : Nat → Nat), Rel I mu → ∃ v, fX12_drift 0 x1 I (z_Rm mu) = some v ∧ fX13_drift 102 x1 I (z_Rm mu) = some v ∧ Rel I mu
theorem case_of_10 (H : Call_drift) : CaseOk fL_c10 := by
  intro xs L p I mu hL hp h
  unfold fL_c10
  rw [z_g_t (s_g (j := 1) 1 rfl hL hp (by decide))]
  obtain ⟨v, e1, e2, h2⟩ := H (xs (nI p + 1).toNatClampNeg) I mu h
  rw [e1, z_b_s]
  rw [e2, z_b_s]
  rw [if_pos rfl, z_l_s, s_6]
  exact ⟨I, mu, rfl, h2⟩
def Call_beat : Prop := ∀ (x1 : Int32) (x2 : Int32) (x3 : Int32) (I : Nat → Nat → Int32) (mu : Nat → Nat), Rel I mu → ∃ v, fX12_beat 0 x1 x2 x3 I (z_Rm mu) = some v ∧ fX13_beat 102 x1 x2 x3 I (z_Rm mu) = some v ∧ Rel I mu
theorem case_of_11 (H : Call_beat) : CaseOk fL_c11 := by
  intro xs L p I mu hL hp h
  unfold fL_c11
  rw [z_g_t (s_g (j := 1) 1 rfl hL hp (by decide)), z_g_t (s_g (j := 2) 2 rfl hL hp (by decide)), z_g_t (s_g (j := 3) 3 rfl hL hp (by decide))]
  obtain ⟨v, e1, e2, h2⟩ := H (xs (nI p + 1).toNatClampNeg) (xs (nI p + 2).toNatClampNeg) (xs (nI p + 3).toNatClampNeg) I mu h
  rw [e1, z_b_s]
  rw [e2, z_b_s]
  rw [if_pos rfl, z_l_s, s_6]
  exact ⟨I, mu, rfl, h2⟩
def Call_end : Prop := ∀ (x1 : Int32) (x2 : Int32) (I : Nat → Nat → Int32) (mu : Nat → Nat), Rel I mu → ∃ v I1 I2, fX12_end 0 x1 x2 I (z_Rm mu) = some (v, I1) ∧ fX13_end 102 x1 x2 I1 (z_Rm mu) = some (v, I2) ∧ Rel I2 mu
theorem case_of_12 (H : Call_end) : CaseOk fL_c12 := by
  intro xs L p I mu hL hp h
  unfold fL_c12
  rw [z_g_t (s_g (j := 1) 1 rfl hL hp (by decide)), z_g_t (s_g (j := 2) 2 rfl hL hp (by decide))]
  obtain ⟨v, I1, I2, e1, e2, h2⟩ := H (xs (nI p + 1).toNatClampNeg) (xs (nI p + 2).toNatClampNeg) I mu h
  rw [e1, z_b_s]
  dsimp only
  rw [e2, z_b_s]
  rw [if_pos rfl, z_l_s, s_6]
  exact ⟨I2, mu, rfl, h2⟩
def Call_spread : Prop := ∀ (x1 : Int32) (I : Nat → Nat → Int32) (mu : Nat → Nat), Rel I mu → ∃ v I1 I2, fX12_spread 0 x1 I (z_Rm mu) = some (v, I1) ∧ fX13_spread 102 x1 I1 (z_Rm mu) = some (v, I2) ∧ Rel I2 mu
theorem case_of_13 (H : Call_spread) : CaseOk fL_c13 := by
  intro xs L p I mu hL hp h
  unfold fL_c13
  rw [z_g_t (s_g (j := 1) 1 rfl hL hp (by decide))]
  obtain ⟨v, I1, I2, e1, e2, h2⟩ := H (xs (nI p + 1).toNatClampNeg) I mu h
  rw [e1, z_b_s]
  dsimp only
  rw [e2, z_b_s]
  rw [if_pos rfl, z_l_s, s_6]
  exact ⟨I2, mu, rfl, h2⟩
def Call_firstCome : Prop := ∀ (x1 : Int32) (x2 : Int32) (I : Nat → Nat → Int32) (mu : Nat → Nat), Rel I mu → ∃ v I1 I2, fX12_firstCome 0 x1 x2 I (z_Rm mu) = some (v, I1) ∧ fX13_firstCome 102 x1 x2 I1 (z_Rm mu) = some (v, I2) ∧ Rel I2 mu
theorem case_of_14 (H : Call_firstCome) : CaseOk fL_c14 := by
  intro xs L p I mu hL hp h
  unfold fL_c14
  rw [z_g_t (s_g (j := 1) 1 rfl hL hp (by decide)), z_g_t (s_g (j := 2) 2 rfl hL hp (by decide))]
  obtain ⟨v, I1, I2, e1, e2, h2⟩ := H (xs (nI p + 1).toNatClampNeg) (xs (nI p + 2).toNatClampNeg) I mu h
  rw [e1, z_b_s]
  dsimp only
  rw [e2, z_b_s]
  rw [if_pos rfl, z_l_s, s_6]
  exact ⟨I2, mu, rfl, h2⟩
def Call_sounds : Prop := ∀ (x1 : Int32) (I : Nat → Nat → Int32) (mu : Nat → Nat), Rel I mu → ∃ v, fX12_sounds 0 x1 I (z_Rm mu) = some v ∧ fX13_sounds 102 x1 I (z_Rm mu) = some v ∧ Rel I mu
theorem case_of_15 (H : Call_sounds) : CaseOk fL_c15 := by
  intro xs L p I mu hL hp h
  unfold fL_c15
  rw [z_g_t (s_g (j := 1) 1 rfl hL hp (by decide))]
  obtain ⟨v, e1, e2, h2⟩ := H (xs (nI p + 1).toNatClampNeg) I mu h
  rw [e1, z_b_s]
  rw [e2, z_b_s]
  rw [if_pos rfl, z_l_s, s_6]
  exact ⟨I, mu, rfl, h2⟩
def Call_canon : Prop := ∀ (x1 : Int32) (x2 : Int32) (x3 : Int32) (I : Nat → Nat → Int32) (mu : Nat → Nat), Rel I mu → ∃ v, fX12_canon 0 x1 x2 x3 I (z_Rm mu) = some v ∧ fX13_canon 102 x1 x2 x3 I (z_Rm mu) = some v ∧ Rel I mu
theorem case_of_16 (H : Call_canon) : CaseOk fL_c16 := by
  intro xs L p I mu hL hp h
  unfold fL_c16
  rw [z_g_t (s_g (j := 1) 1 rfl hL hp (by decide)), z_g_t (s_g (j := 2) 2 rfl hL hp (by decide)), z_g_t (s_g (j := 3) 3 rfl hL hp (by decide))]
  obtain ⟨v, e1, e2, h2⟩ := H (xs (nI p + 1).toNatClampNeg) (xs (nI p + 2).toNatClampNeg) (xs (nI p + 3).toNatClampNeg) I mu h
  rw [e1, z_b_s]
  rw [e2, z_b_s]
  rw [if_pos rfl, z_l_s, s_6]
  exact ⟨I, mu, rfl, h2⟩
def Call_returns : Prop := ∀ (x1 : Int32) (x2 : Int32) (x3 : Int32) (I : Nat → Nat → Int32) (mu : Nat → Nat), Rel I mu → ∃ v I1 I2, fX12_returns 0 x1 x2 x3 I (z_Rm mu) = some (v, I1) ∧ fX13_returns 102 x1 x2 x3 I1 (z_Rm mu) = some (v, I2) ∧ Rel I2 mu
theorem case_of_17 (H : Call_returns) : CaseOk fL_c17 := by
  intro xs L p I mu hL hp h
  unfold fL_c17
  rw [z_g_t (s_g (j := 1) 1 rfl hL hp (by decide)), z_g_t (s_g (j := 2) 2 rfl hL hp (by decide)), z_g_t (s_g (j := 3) 3 rfl hL hp (by decide))]
  obtain ⟨v, I1, I2, e1, e2, h2⟩ := H (xs (nI p + 1).toNatClampNeg) (xs (nI p + 2).toNatClampNeg) (xs (nI p + 3).toNatClampNeg) I mu h
  rw [e1, z_b_s]
  dsimp only
  rw [e2, z_b_s]
  rw [if_pos rfl, z_l_s, s_6]
  exact ⟨I2, mu, rfl, h2⟩
def Call_backwards : Prop := ∀ (x1 : Int32) (x2 : Int32) (I : Nat → Nat → Int32) (mu : Nat → Nat), Rel I mu → ∃ v I1 I2, fX12_backwards 0 x1 x2 I (z_Rm mu) = some (v, I1) ∧ fX13_backwards 102 x1 x2 I1 (z_Rm mu) = some (v, I2) ∧ Rel I2 mu
theorem case_of_18 (H : Call_backwards) : CaseOk fL_c18 := by
  intro xs L p I mu hL hp h
  unfold fL_c18
  rw [z_g_t (s_g (j := 1) 1 rfl hL hp (by decide)), z_g_t (s_g (j := 2) 2 rfl hL hp (by decide))]
  obtain ⟨v, I1, I2, e1, e2, h2⟩ := H (xs (nI p + 1).toNatClampNeg) (xs (nI p + 2).toNatClampNeg) I mu h
  rw [e1, z_b_s]
  dsimp only
  rw [e2, z_b_s]
  rw [if_pos rfl, z_l_s, s_6]
  exact ⟨I2, mu, rfl, h2⟩
def Call_range : Prop := ∀ (x1 : Int32) (I : Nat → Nat → Int32) (mu : Nat → Nat), Rel I mu → ∃ v I2, fX12_range 0 x1 I (z_Rm mu) = some v ∧ fX13_range 102 x1 I (z_Rm mu) = some (v, I2) ∧ Rel I2 mu
theorem case_of_19 (H : Call_range) : CaseOk fL_c19 := by
  intro xs L p I mu hL hp h
  unfold fL_c19
  rw [z_g_t (s_g (j := 1) 1 rfl hL hp (by decide))]
  obtain ⟨v, I2, e1, e2, h2⟩ := H (xs (nI p + 1).toNatClampNeg) I mu h
  rw [e1, z_b_s]
  rw [e2, z_b_s]
  rw [if_pos rfl, z_l_s, s_6]
  exact ⟨I2, mu, rfl, h2⟩
def Call_alone : Prop := ∀ (x1 : Int32) (I : Nat → Nat → Int32) (mu : Nat → Nat), Rel I mu → ∃ v, fX12_alone 0 x1 I (z_Rm mu) = some v ∧ fX13_alone 102 x1 I (z_Rm mu) = some v ∧ Rel I mu
theorem case_of_20 (H : Call_alone) : CaseOk fL_c20 := by
  intro xs L p I mu hL hp h
  unfold fL_c20
  rw [z_g_t (s_g (j := 1) 1 rfl hL hp (by decide))]
  obtain ⟨v, e1, e2, h2⟩ := H (xs (nI p + 1).toNatClampNeg) I mu h
  rw [e1, z_b_s]
  rw [e2, z_b_s]
  rw [if_pos rfl, z_l_s, s_6]
  exact ⟨I, mu, rfl, h2⟩
def Call_together : Prop := ∀ (x1 : Int32) (x2 : Int32) (x3 : Int32) (I : Nat → Nat → Int32) (mu : Nat → Nat), Rel I mu → ∃ v I1 I2, fX12_together 0 x1 x2 x3 I (z_Rm mu) = some (v, I1) ∧ fX13_together 102 x1 x2 x3 I1 (z_Rm mu) = some (v, I2) ∧ Rel I2 mu
theorem case_of_21 (H : Call_together) : CaseOk fL_c21 := by
  intro xs L p I mu hL hp h
  unfold fL_c21
  rw [z_g_t (s_g (j := 1) 1 rfl hL hp (by decide)), z_g_t (s_g (j := 2) 2 rfl hL hp (by decide)), z_g_t (s_g (j := 3) 3 rfl hL hp (by decide))]
  obtain ⟨v, I1, I2, e1, e2, h2⟩ := H (xs (nI p + 1).toNatClampNeg) (xs (nI p + 2).toNatClampNeg) (xs (nI p + 3).toNatClampNeg) I mu h
  rw [e1, z_b_s]
  dsimp only
  rw [e2, z_b_s]
  rw [if_pos rfl, z_l_s, s_6]
  exact ⟨I2, mu, rfl, h2⟩
def Call_attacks : Prop := ∀ (x1 : Int32) (I : Nat → Nat → Int32) (mu : Nat → Nat), Rel I mu → ∃ v, fX12_attacks 0 x1 I (z_Rm mu) = some v ∧ fX13_attacks 102 x1 I (z_Rm mu) = some v ∧ Rel I mu
theorem case_of_22 (H : Call_attacks) : CaseOk fL_c22 := by
  intro xs L p I mu hL hp h
  unfold fL_c22
  rw [z_g_t (s_g (j := 1) 1 rfl hL hp (by decide))]
  obtain ⟨v, e1, e2, h2⟩ := H (xs (nI p + 1).toNatClampNeg) I mu h
  rw [e1, z_b_s]
  rw [e2, z_b_s]
  rw [if_pos rfl, z_l_s, s_6]
  exact ⟨I, mu, rfl, h2⟩
def Call_key : Prop := ∀ (x1 : Int32) (x2 : Int32) (I : Nat → Nat → Int32) (mu : Nat → Nat), Rel I mu → ∃ v, fX12_key 0 x1 x2 I (z_Rm mu) = some v ∧ fX13_key 102 x1 x2 I (z_Rm mu) = some v ∧ Rel I mu
theorem case_of_23 (H : Call_key) : CaseOk fL_c23 := by
  intro xs L p I mu hL hp h
  unfold fL_c23
  rw [z_g_t (s_g (j := 1) 1 rfl hL hp (by decide)), z_g_t (s_g (j := 2) 2 rfl hL hp (by decide))]
  obtain ⟨v, e1, e2, h2⟩ := H (xs (nI p + 1).toNatClampNeg) (xs (nI p + 2).toNatClampNeg) I mu h
  rw [e1, z_b_s]
  rw [e2, z_b_s]
  rw [if_pos rfl, z_l_s, s_6]
  exact ⟨I, mu, rfl, h2⟩
def Call_tune : Prop := ∀ (x1 : Int32) (x2 : Int32) (I : Nat → Nat → Int32) (mu : Nat → Nat), Rel I mu → ∃ v I2, fX12_tune 0 x1 x2 I (z_Rm mu) = some v ∧ fX13_tune 102 x1 x2 I (z_Rm mu) = some (v, I2) ∧ Rel I2 mu
theorem case_of_24 (H : Call_tune) : CaseOk fL_c24 := by
  intro xs L p I mu hL hp h
  unfold fL_c24
  rw [z_g_t (s_g (j := 1) 1 rfl hL hp (by decide)), z_g_t (s_g (j := 2) 2 rfl hL hp (by decide))]
  obtain ⟨v, I2, e1, e2, h2⟩ := H (xs (nI p + 1).toNatClampNeg) (xs (nI p + 2).toNatClampNeg) I mu h
  rw [e1, z_b_s]
  rw [e2, z_b_s]
  rw [if_pos rfl, z_l_s, s_6]
  exact ⟨I2, mu, rfl, h2⟩
def Call_breaths : Prop := ∀ (x1 : Int32) (x2 : Int32) (x3 : Int32) (I : Nat → Nat → Int32) (mu : Nat → Nat), Rel I mu → ∃ v I1 I2, fX12_breaths 0 x1 x2 x3 I (z_Rm mu) = some (v, I1) ∧ fX13_breaths 102 x1 x2 x3 I1 (z_Rm mu) = some (v, I2) ∧ Rel I2 mu
theorem case_of_25 (H : Call_breaths) : CaseOk fL_c25 := by
  intro xs L p I mu hL hp h
  unfold fL_c25
  rw [z_g_t (s_g (j := 1) 1 rfl hL hp (by decide)), z_g_t (s_g (j := 2) 2 rfl hL hp (by decide)), z_g_t (s_g (j := 3) 3 rfl hL hp (by decide))]
  obtain ⟨v, I1, I2, e1, e2, h2⟩ := H (xs (nI p + 1).toNatClampNeg) (xs (nI p + 2).toNatClampNeg) (xs (nI p + 3).toNatClampNeg) I mu h
  rw [e1, z_b_s]
  dsimp only
  rw [e2, z_b_s]
  rw [if_pos rfl, z_l_s, s_6]
  exact ⟨I2, mu, rfl, h2⟩
def Call_clock : Prop := ∀ (x1 : Int32) (x2 : Int32) (I : Nat → Nat → Int32) (mu : Nat → Nat), Rel I mu → ∃ v, fX12_clock 0 x1 x2 I (z_Rm mu) = some v ∧ fX13_clock 102 x1 x2 I (z_Rm mu) = some v ∧ Rel I mu
theorem case_of_26 (H : Call_clock) : CaseOk fL_c26 := by
  intro xs L p I mu hL hp h
  unfold fL_c26
  rw [z_g_t (s_g (j := 1) 1 rfl hL hp (by decide)), z_g_t (s_g (j := 2) 2 rfl hL hp (by decide))]
  obtain ⟨v, e1, e2, h2⟩ := H (xs (nI p + 1).toNatClampNeg) (xs (nI p + 2).toNatClampNeg) I mu h
  rw [e1, z_b_s]
  rw [e2, z_b_s]
  rw [if_pos rfl, z_l_s, s_6]
  exact ⟨I, mu, rfl, h2⟩
def Call_meet : Prop := ∀ (x1 : Int32) (x2 : Int32) (I : Nat → Nat → Int32) (mu : Nat → Nat), Rel I mu → ∃ v, fX12_meet 0 x1 x2 I (z_Rm mu) = some v ∧ fX13_meet 102 x1 x2 I (z_Rm mu) = some v ∧ Rel I mu
theorem case_of_27 (H : Call_meet) : CaseOk fL_c27 := by
  intro xs L p I mu hL hp h
  unfold fL_c27
  rw [z_g_t (s_g (j := 1) 1 rfl hL hp (by decide)), z_g_t (s_g (j := 2) 2 rfl hL hp (by decide))]
  obtain ⟨v, e1, e2, h2⟩ := H (xs (nI p + 1).toNatClampNeg) (xs (nI p + 2).toNatClampNeg) I mu h
  rw [e1, z_b_s]
  rw [e2, z_b_s]
  rw [if_pos rfl, z_l_s, s_6]
  exact ⟨I, mu, rfl, h2⟩
def Call_agree : Prop := ∀ (x1 : Int32) (x2 : Int32) (x3 : Int32) (I : Nat → Nat → Int32) (mu : Nat → Nat), Rel I mu → ∃ v, fX12_agree 0 x1 x2 x3 I (z_Rm mu) = some v ∧ fX13_agree 102 x1 x2 x3 I (z_Rm mu) = some v ∧ Rel I mu
theorem case_of_28 (H : Call_agree) : CaseOk fL_c28 := by
  intro xs L p I mu hL hp h
  unfold fL_c28
  rw [z_g_t (s_g (j := 1) 1 rfl hL hp (by decide)), z_g_t (s_g (j := 2) 2 rfl hL hp (by decide)), z_g_t (s_g (j := 3) 3 rfl hL hp (by decide))]
  obtain ⟨v, e1, e2, h2⟩ := H (xs (nI p + 1).toNatClampNeg) (xs (nI p + 2).toNatClampNeg) (xs (nI p + 3).toNatClampNeg) I mu h
  rw [e1, z_b_s]
  rw [e2, z_b_s]
  rw [if_pos rfl, z_l_s, s_6]
  exact ⟨I, mu, rfl, h2⟩
def Call_leads : Prop := ∀ (x1 : Int32) (I : Nat → Nat → Int32) (mu : Nat → Nat), Rel I mu → ∃ v I1, fX12_leads 0 x1 I (z_Rm mu) = some (v, I1) ∧ fX13_leads 102 x1 I1 (z_Rm mu) = some v ∧ Rel I1 mu
theorem case_of_29 (H : Call_leads) : CaseOk fL_c29 := by
  intro xs L p I mu hL hp h
  unfold fL_c29
  rw [z_g_t (s_g (j := 1) 1 rfl hL hp (by decide))]
  obtain ⟨v, I1, e1, e2, h2⟩ := H (xs (nI p + 1).toNatClampNeg) I mu h
  rw [e1, z_b_s]
  dsimp only
  rw [e2, z_b_s]
  rw [if_pos rfl, z_l_s, s_6]
  exact ⟨I1, mu, rfl, h2⟩
def Call_groups : Prop := ∀ (x1 : Int32) (I : Nat → Nat → Int32) (mu : Nat → Nat), Rel I mu → ∃ v I1, fX12_groups 0 x1 I (z_Rm mu) = some (v, I1) ∧ fX13_groups 102 x1 I1 (z_Rm mu) = some v ∧ Rel I1 mu
theorem case_of_30 (H : Call_groups) : CaseOk fL_c30 := by
  intro xs L p I mu hL hp h
  unfold fL_c30
  rw [z_g_t (s_g (j := 1) 1 rfl hL hp (by decide))]
  obtain ⟨v, I1, e1, e2, h2⟩ := H (xs (nI p + 1).toNatClampNeg) I mu h
  rw [e1, z_b_s]
  dsimp only
  rw [e2, z_b_s]
  rw [if_pos rfl, z_l_s, s_6]
  exact ⟨I1, mu, rfl, h2⟩
def Call_order : Prop := ∀ (x1 : Int32) (I : Nat → Nat → Int32) (mu : Nat → Nat), Rel I mu → ∃ v, fX12_order 0 x1 I (z_Rm mu) = some v ∧ fX13_order 102 x1 I (z_Rm mu) = some v ∧ Rel I mu
theorem case_of_31 (H : Call_order) : CaseOk fL_c31 := by
  intro xs L p I mu hL hp h
  unfold fL_c31
  rw [z_g_t (s_g (j := 1) 1 rfl hL hp (by decide))]
  obtain ⟨v, e1, e2, h2⟩ := H (xs (nI p + 1).toNatClampNeg) I mu h
  rw [e1, z_b_s]
  rw [e2, z_b_s]
  rw [if_pos rfl, z_l_s, s_6]
  exact ⟨I, mu, rfl, h2⟩
def Call_seed : Prop := ∀ (x1 : Int32) (I : Nat → Nat → Int32) (mu : Nat → Nat), Rel I mu → ∃ v I1 I2, fX12_seed 0 x1 I (z_Rm mu) = some (v, I1) ∧ fX13_seed 102 x1 I1 (z_Rm mu) = some (v, I2) ∧ Rel I2 mu
theorem case_of_32 (H : Call_seed) : CaseOk fL_c32 := by
  intro xs L p I mu hL hp h
  unfold fL_c32
  rw [z_g_t (s_g (j := 1) 1 rfl hL hp (by decide))]
  obtain ⟨v, I1, I2, e1, e2, h2⟩ := H (xs (nI p + 1).toNatClampNeg) I mu h
  rw [e1, z_b_s]
  dsimp only
  rw [e2, z_b_s]
  rw [if_pos rfl, z_l_s, s_6]
  exact ⟨I2, mu, rfl, h2⟩
def Call_keep : Prop := ∀ (I : Nat → Nat → Int32) (mu : Nat → Nat), Rel I mu → ∃ v I1 I2, fX12_keep 0 I (z_Rm mu) = some (v, I1) ∧ fX13_keep 102 I1 (z_Rm mu) = some (v, I2) ∧ Rel I2 mu
theorem case_of_33 (H : Call_keep) : CaseOk fL_c33 := by
  intro xs L p I mu hL hp h
  unfold fL_c33
  obtain ⟨v, I1, I2, e1, e2, h2⟩ := H  I mu h
  rw [e1, z_b_s]
  dsimp only
  rw [e2, z_b_s]
  rw [if_pos rfl, z_l_s, s_6]
  exact ⟨I2, mu, rfl, h2⟩
def Call_undo : Prop := ∀ (I : Nat → Nat → Int32) (mu : Nat → Nat), Rel I mu → ∃ v I1 I2, fX12_undo 0 I (z_Rm mu) = some (v, I1) ∧ fX13_undo 102 I1 (z_Rm mu) = some (v, I2) ∧ Rel I2 mu
theorem case_of_34 (H : Call_undo) : CaseOk fL_c34 := by
  intro xs L p I mu hL hp h
  unfold fL_c34
  obtain ⟨v, I1, I2, e1, e2, h2⟩ := H  I mu h
  rw [e1, z_b_s]
  dsimp only
  rw [e2, z_b_s]
  rw [if_pos rfl, z_l_s, s_6]
  exact ⟨I2, mu, rfl, h2⟩
def Call_check : Prop := ∀ (x1 : Int32) (I : Nat → Nat → Int32) (mu : Nat → Nat), Rel I mu → ∃ v I1 I2, fX12_check 0 x1 I (z_Rm mu) = some (v, I1) ∧ fX13_check 102 x1 I1 (z_Rm mu) = some (v, I2) ∧ Rel I2 mu
theorem case_of_35 (H : Call_check) : CaseOk fL_c35 := by
  intro xs L p I mu hL hp h
  unfold fL_c35
  rw [z_g_t (s_g (j := 1) 1 rfl hL hp (by decide))]
  obtain ⟨v, I1, I2, e1, e2, h2⟩ := H (xs (nI p + 1).toNatClampNeg) I mu h
  rw [e1, z_b_s]
  dsimp only
  rw [e2, z_b_s]
  rw [if_pos rfl, z_l_s, s_6]
  exact ⟨I2, mu, rfl, h2⟩
def Call_count : Prop := ∀ (x1 : Int32) (I : Nat → Nat → Int32) (mu : Nat → Nat), Rel I mu → ∃ v, fX12_count 0 x1 I (z_Rm mu) = some v ∧ fX13_count 102 x1 I (z_Rm mu) = some v ∧ Rel I mu
theorem case_of_36 (H : Call_count) : CaseOk fL_c36 := by
  intro xs L p I mu hL hp h
  unfold fL_c36
  rw [z_g_t (s_g (j := 1) 1 rfl hL hp (by decide))]
  obtain ⟨v, e1, e2, h2⟩ := H (xs (nI p + 1).toNatClampNeg) I mu h
  rw [e1, z_b_s]
  rw [e2, z_b_s]
  rw [if_pos rfl, z_l_s, s_6]
  exact ⟨I, mu, rfl, h2⟩
theorem case_37 : CaseOk fL_c37 := by
  intro xs L p I mu hL hp h
  unfold fL_c37
  rw [z_l_s, s_6]
  exact ⟨I, mu, rfl, h⟩
theorem main_calls (h0 : Call_singer) (h1 : Call_ears) (h2 : Call_tempo) (h3 : Call_anew) (h4 : Call_feed) (h5 : Call_law) (h6 : Call_roll) (h7 : Call_ticks) (h8 : Call_tried) (h9 : Call_singerIs) (h10 : Call_drift) (h11 : Call_beat) (h12 : Call_end) (h13 : Call_spread) (h14 : Call_firstCome) (h15 : Call_sounds) (h16 : Call_canon) (h17 : Call_returns) (h18 : Call_backwards) (h19 : Call_range) (h20 : Call_alone) (h21 : Call_together) (h22 : Call_attacks) (h23 : Call_key) (h24 : Call_tune) (h25 : Call_breaths) (h26 : Call_clock) (h27 : Call_meet) (h28 : Call_agree) (h29 : Call_leads) (h30 : Call_groups) (h31 : Call_order) (h32 : Call_seed) (h33 : Call_keep) (h34 : Call_undo) (h35 : Call_check) (h36 : Call_count) {xs : Nat → Int32} {L : Nat} (hL : L ≤ 384) : z_lp (fL_b xs L) 300 ((0 : Int32), z_I0, z_R0) = some 1 := main_of (case_of_0 h0) (case_of_1 h1) (case_of_2 h2) (case_of_3 h3) (case_of_4 h4) (case_of_5 h5) (case_of_6 h6) (case_of_7 h7) (case_of_8 h8) (case_of_9 h9) (case_of_10 h10) (case_of_11 h11) (case_of_12 h12) (case_of_13 h13) (case_of_14 h14) (case_of_15 h15) (case_of_16 h16) (case_of_17 h17) (case_of_18 h18) (case_of_19 h19) (case_of_20 h20) (case_of_21 h21) (case_of_22 h22) (case_of_23 h23) (case_of_24 h24) (case_of_25 h25) (case_of_26 h26) (case_of_27 h27) (case_of_28 h28) (case_of_29 h29) (case_of_30 h30) (case_of_31 h31) (case_of_32 h32) (case_of_33 h33) (case_of_34 h34) (case_of_35 h35) (case_of_36 h36) case_37 hL
