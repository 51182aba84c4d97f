/-! Layer C: the calls, one by one -/
section Cl
variable {nc w : Nat} {p r : Mem}
theorem s_feed (h : Rel nc w p r) (hb : w + 537600 < 2147483647) (x1 x2 x3 x4 x5 : Int32) (hC : ∀ v r', R_feed x1 x2 x3 x4 x5 r = some (v, r') → mC r' = mC r) : Stq w p r (P_feed x1 x2 x3 x4 x5 p) (R_feed x1 x2 x3 x4 x5 r) := tp_j h (st_feed h.2.2.1.1 x1 x2 x3 x4 x5)
theorem s_back (h : Rel nc w p r) (hb : w + 537600 < 2147483647) (x1 : Int32) (hC : ∀ v r', R_back x1 r = some (v, r') → mC r' = mC r) : Stq w p r (P_back x1 p) (R_back x1 r) := tp_j h (st_back h.2.2.1.1 x1)
theorem s_read (h : Rel nc w p r) (hb : w + 537600 < 2147483647) (hC : ∀ v r', R_read r = some (v, r') → mC r' = mC r) : Stq w p r (P_read p) (R_read r) := read_j h (by omega)
theorem s_place (h : Rel nc w p r) (hb : w + 537600 < 2147483647) (hC : ∀ v r', R_place r = some (v, r') → mC r' = mC r) : Stq w p r (P_place p) (R_place r) := same_j h (v := mI p 1415 0) rfl (by rw [h.2.2.1.2.2.2.2]; rfl)
theorem s_named (h : Rel nc w p r) (hb : w + 537600 < 2147483647) (hC : ∀ v r', R_named r = some (v, r') → mC r' = mC r) : Stq w p r (P_named p) (R_named r) := named_j h
theorem s_town (h : Rel nc w p r) (hb : w + 537600 < 2147483647) (hC : ∀ v r', R_town r = some (v, r') → mC r' = mC r) : Stq w p r (P_town p) (R_town r) := by
  obtain ⟨v, p', r', e1, e2, L, c, c', m1, m2⟩ := st_town h.1.2.1
  exact land_j h ⟨v, p', r', e1, e2, L, c.mono (by decide) (by decide) (fun _ q => q), c'.mono (by decide) (by decide) (fun _ q => q), m1, m2, hC _ _ e2⟩
theorem s_firm (h : Rel nc w p r) (hb : w + 537600 < 2147483647) (x1 x2 : Int32) (hC : ∀ v r', R_firm x1 x2 r = some (v, r') → mC r' = mC r) : Stq w p r (P_firm x1 x2 p) (R_firm x1 x2 r) := by
  obtain ⟨v, p', r', e1, e2, L, c, c', m1, m2, hz⟩ := st_firm h.1.2.1 x1 x2
  exact zap_j h ⟨v, p', r', e1, e2, L, c.mono (by decide) (by decide) (fun _ q => q), c'.mono (by decide) (by decide) (fun _ q => q), m1, m2, hz.imp id (fun z => ⟨hC _ _ e2, z⟩)⟩
theorem s_person (h : Rel nc w p r) (hb : w + 537600 < 2147483647) (x1 x2 x3 : Int32) (hC : ∀ v r', R_person x1 x2 x3 r = some (v, r') → mC r' = mC r) : Stq w p r (P_person x1 x2 x3 p) (R_person x1 x2 x3 r) := person_j h x1 x2 x3 hC
theorem s_marks (h : Rel nc w p r) (hb : w + 537600 < 2147483647) (x1 x2 : Int32) (hC : ∀ v r', R_marks x1 x2 r = some (v, r') → mC r' = mC r) : Stq w p r (P_marks x1 x2 p) (R_marks x1 x2 r) := by
  obtain ⟨v, p', r', e1, e2, L, c, c', m1, m2⟩ := st_marks h.1.2.1 x1 x2
  exact land_j h ⟨v, p', r', e1, e2, L, c.mono (by decide) (by decide) (fun _ q => q), c'.mono (by decide) (by decide) (fun _ q => q), m1, m2, hC _ _ e2⟩
theorem s_weight (h : Rel nc w p r) (hb : w + 537600 < 2147483647) (x1 x2 : Int32) (hC : ∀ v r', R_weight x1 x2 r = some (v, r') → mC r' = mC r) : Stq w p r (P_weight x1 x2 p) (R_weight x1 x2 r) := by
  obtain ⟨v, p', r', e1, e2, L, c, c', m1, m2, hz⟩ := st_weight h.1.2.1 x1 x2
  exact zap_j h ⟨v, p', r', e1, e2, L, c.mono (by decide) (by decide) (fun _ q => q), c'.mono (by decide) (by decide) (fun _ q => q), m1, m2, hz.imp id (fun z => ⟨hC _ _ e2, z⟩)⟩
theorem s_price (h : Rel nc w p r) (hb : w + 537600 < 2147483647) (x1 x2 x3 x4 : Int32) (hC : ∀ v r', R_price x1 x2 x3 x4 r = some (v, r') → mC r' = mC r) : Stq w p r (P_price x1 x2 x3 x4 p) (R_price x1 x2 x3 x4 r) := told_j h (st_price h.1.1 h.1.2.1 x1 x2 x3 x4)
theorem s_wet (h : Rel nc w p r) (hb : w + 537600 < 2147483647) (x1 x2 x3 : Int32) (hC : ∀ v r', R_wet x1 x2 x3 r = some (v, r') → mC r' = mC r) : Stq w p r (P_wet x1 x2 x3 p) (R_wet x1 x2 x3 r) := told_j h (st_wet h.1.1 h.1.2.1 x1 x2 x3)
theorem s_row (h : Rel nc w p r) (hb : w + 537600 < 2147483647) (x1 x2 x3 : Int32) (hC : ∀ v r', R_row x1 x2 x3 r = some (v, r') → mC r' = mC r) : Stq w p r (P_row x1 x2 x3 p) (R_row x1 x2 x3 r) := told_j h (st_row h.1.1 h.1.2.1 x1 x2 x3)
theorem s_cell (h : Rel nc w p r) (hb : w + 537600 < 2147483647) (x1 x2 : Int32) (hC : ∀ v r', R_cell x1 x2 r = some (v, r') → mC r' = mC r) : Stq w p r (P_cell x1 x2 p) (R_cell x1 x2 r) := cell_j h x1 x2
theorem s_log (h : Rel nc w p r) (hb : w + 537600 < 2147483647) (x1 x2 x3 : Int32) (hC : ∀ v r', R_log x1 x2 x3 r = some (v, r') → mC r' = mC r) : Stq w p r (P_log x1 x2 x3 p) (R_log x1 x2 x3 r) := told_j h (st_log h.1.1 x1 x2 x3)
theorem s_answer (h : Rel nc w p r) (hb : w + 537600 < 2147483647) (x1 x2 x3 : Int32) (hC : ∀ v r', R_answer x1 x2 x3 r = some (v, r') → mC r' = mC r) : Stq w p r (P_answer x1 x2 x3 p) (R_answer x1 x2 x3 r) := told_j h (st_answer h.1.1 x1 x2 x3)
theorem s_paid (h : Rel nc w p r) (hb : w + 537600 < 2147483647) (x1 x2 x3 : Int32) (hC : ∀ v r', R_paid x1 x2 x3 r = some (v, r') → mC r' = mC r) : Stq w p r (P_paid x1 x2 x3 p) (R_paid x1 x2 x3 r) := told_j h (st_paid h.1.1 h.1.2.1 x1 x2 x3)
theorem s_stay (h : Rel nc w p r) (hb : w + 537600 < 2147483647) (x1 x2 x3 : Int32) (hC : ∀ v r', R_stay x1 x2 x3 r = some (v, r') → mC r' = mC r) : Stq w p r (P_stay x1 x2 x3 p) (R_stay x1 x2 x3 r) := told_j h (st_stay h.1.1 x1 x2 x3)
theorem s_priced (h : Rel nc w p r) (hb : w + 537600 < 2147483647) (x1 x2 x3 x4 : Int32) (hC : ∀ v r', R_priced x1 x2 x3 x4 r = some (v, r') → mC r' = mC r) : Stq w p r (P_priced x1 x2 x3 x4 p) (R_priced x1 x2 x3 x4 r) := by
  obtain ⟨v, e1, e2⟩ := st_priced h.1.1 h.1.2.1 x1 x2 x3 x4
  exact same_j h e1 e2
theorem s_least (h : Rel nc w p r) (hb : w + 537600 < 2147483647) (x1 x2 x3 : Int32) (hC : ∀ v r', R_least x1 x2 x3 r = some (v, r') → mC r' = mC r) : Stq w p r (P_least x1 x2 x3 p) (R_least x1 x2 x3 r) := by
  obtain ⟨v, e1, e2⟩ := st_least h.1.1 h.1.2.1 h.1.2.2.1 x1 x2 x3
  exact same_j h e1 e2
theorem s_kind (h : Rel nc w p r) (hb : w + 537600 < 2147483647) (x1 : Int32) (hC : ∀ v r', R_kind x1 r = some (v, r') → mC r' = mC r) : Stq w p r (P_kind x1 p) (R_kind x1 r) := by
  obtain ⟨v, e1, e2⟩ := st_kind h.1.1 x1
  exact same_j h e1 e2
theorem s_award (h : Rel nc w p r) (hb : w + 537600 < 2147483647) (x1 : Int32) (hC : ∀ v r', R_award x1 r = some (v, r') → mC r' = mC r) : Stq w p r (P_award x1 p) (R_award x1 r) := by
  obtain ⟨v, e1, e2⟩ := st_award h.1.1 x1
  exact same_j h e1 e2
theorem s_count (h : Rel nc w p r) (hb : w + 537600 < 2147483647) (x1 : Int32) (hC : ∀ v r', R_count x1 r = some (v, r') → mC r' = mC r) : Stq w p r (P_count x1 p) (R_count x1 r) := by
  obtain ⟨v, e1, e2⟩ := st_count h.1.1 h.1.2.1 h.2.2.1.1 x1
  exact same_j h e1 e2
theorem s_part (h : Rel nc w p r) (hb : w + 537600 < 2147483647) (x1 x2 : Int32) (hC : ∀ v r', R_part x1 x2 r = some (v, r') → mC r' = mC r) : Stq w p r (P_part x1 x2 p) (R_part x1 x2 r) := by
  obtain ⟨v, e1, e2⟩ := st_part h.2.2.1.2.1 x1 x2
  exact same_j h e1 e2
theorem s_force (h : Rel nc w p r) (hb : w + 537600 < 2147483647) (x1 x2 x3 x4 : Int32) (hC : ∀ v r', R_force x1 x2 x3 x4 r = some (v, r') → mC r' = mC r) : Stq w p r (P_force x1 x2 x3 x4 p) (R_force x1 x2 x3 x4 r) := askq_j h (st_force h.1 x1 x2 x3 x4)
theorem s_fate (h : Rel nc w p r) (hb : w + 537600 < 2147483647) (x1 x2 x3 x4 x5 : Int32) (hC : ∀ v r', R_fate x1 x2 x3 x4 x5 r = some (v, r') → mC r' = mC r) : Stq w p r (P_fate x1 x2 x3 x4 x5 p) (R_fate x1 x2 x3 x4 x5 r) := askq_j h (st_fate h.1 x1 x2 x3 x4 x5)
theorem s_item (h : Rel nc w p r) (hb : w + 537600 < 2147483647) (x1 x2 x3 x4 x5 x6 : Int32) (hC : ∀ v r', R_item x1 x2 x3 x4 x5 x6 r = some (v, r') → mC r' = mC r) : Stq w p r (P_item x1 x2 x3 x4 x5 x6 p) (R_item x1 x2 x3 x4 x5 x6 r) := askq_j h (st_item h.1 x1 x2 x3 x4 x5 x6)
theorem s_margin (h : Rel nc w p r) (hb : w + 537600 < 2147483647) (x1 x2 x3 x4 x5 : Int32) (hC : ∀ v r', R_margin x1 x2 x3 x4 x5 r = some (v, r') → mC r' = mC r) : Stq w p r (P_margin x1 x2 x3 x4 x5 p) (R_margin x1 x2 x3 x4 x5 r) := askw_j h (by omega) (st_margin h.1 h.2.2.2 (by omega) x1 x2 x3 x4 x5)
theorem s_did (h : Rel nc w p r) (hb : w + 537600 < 2147483647) (x1 x2 x3 x4 : Int32) (hC : ∀ v r', R_did x1 x2 x3 x4 r = some (v, r') → mC r' = mC r) : Stq w p r (P_did x1 x2 x3 x4 p) (R_did x1 x2 x3 x4 r) := did_j h x1 x2 x3 x4
theorem s_bound (h : Rel nc w p r) (hb : w + 537600 < 2147483647) (x1 x2 x3 x4 : Int32) (hC : ∀ v r', R_bound x1 x2 x3 x4 r = some (v, r') → mC r' = mC r) : Stq w p r (P_bound x1 x2 x3 x4 p) (R_bound x1 x2 x3 x4 r) := askl_j h (by omega) (st_bound h.1 h.2.1 h.2.2.2 (by omega) x1 x2 x3 x4)
theorem s_classed (h : Rel nc w p r) (hb : w + 537600 < 2147483647) (x1 x2 x3 x4 : Int32) (hC : ∀ v r', R_classed x1 x2 x3 x4 r = some (v, r') → mC r' = mC r) : Stq w p r (P_classed x1 x2 x3 x4 p) (R_classed x1 x2 x3 x4 r) := askl_j h (by omega) (st_classed h.1 h.2.1 h.2.2.2 (by omega) x1 x2 x3 x4)
theorem s_nearest (h : Rel nc w p r) (hb : w + 537600 < 2147483647) (x1 x2 x3 x4 : Int32) (hC : ∀ v r', R_nearest x1 x2 x3 x4 r = some (v, r') → mC r' = mC r) : Stq w p r (P_nearest x1 x2 x3 x4 p) (R_nearest x1 x2 x3 x4 r) := askl_j h (by omega) (st_nearest h.1 h.2.1 h.2.2.2 (by omega) x1 x2 x3 x4)
theorem s_payer (h : Rel nc w p r) (hb : w + 537600 < 2147483647) (x1 x2 x3 x4 : Int32) (hC : ∀ v r', R_payer x1 x2 x3 x4 r = some (v, r') → mC r' = mC r) : Stq w p r (P_payer x1 x2 x3 x4 p) (R_payer x1 x2 x3 x4 r) := askl_j h (by omega) (st_payer h.1 h.2.1 h.2.2.2 (by omega) x1 x2 x3 x4)
theorem s_rate (h : Rel nc w p r) (hb : w + 537600 < 2147483647) (x1 x2 x3 x4 : Int32) (hC : ∀ v r', R_rate x1 x2 x3 x4 r = some (v, r') → mC r' = mC r) : Stq w p r (P_rate x1 x2 x3 x4 p) (R_rate x1 x2 x3 x4 r) := askl_j h (by omega) (st_rate h.1 h.2.1 h.2.2.2 (by omega) x1 x2 x3 x4)
theorem s_counted (h : Rel nc w p r) (hb : w + 537600 < 2147483647) (x1 x2 x3 x4 x5 : Int32) (hC : ∀ v r', R_counted x1 x2 x3 x4 x5 r = some (v, r') → mC r' = mC r) : Stq w p r (P_counted x1 x2 x3 x4 x5 p) (R_counted x1 x2 x3 x4 x5 r) := askl_j h (by omega) (st_counted h.1 h.2.1 h.2.2.2 (by omega) x1 x2 x3 x4 x5)
theorem s_worth (h : Rel nc w p r) (hb : w + 537600 < 2147483647) (x1 x2 x3 x4 : Int32) (hC : ∀ v r', R_worth x1 x2 x3 x4 r = some (v, r') → mC r' = mC r) : Stq w p r (P_worth x1 x2 x3 x4 p) (R_worth x1 x2 x3 x4 r) := askl_j h (by omega) (st_worth h.1 h.2.1 h.2.2.2 (by omega) x1 x2 x3 x4)
theorem s_pay (h : Rel nc w p r) (hb : w + 537600 < 2147483647) (x1 x2 x3 : Int32) (hC : ∀ v r', R_pay x1 x2 x3 r = some (v, r') → mC r' = mC r) : Stq w p r (P_pay x1 x2 x3 p) (R_pay x1 x2 x3 r) := askm_j h (by omega) (st_pay h.1 h.2.1 h.2.2.2 (by omega) x1 x2 x3)
theorem s_halves (h : Rel nc w p r) (hb : w + 537600 < 2147483647) (x1 x2 x3 x4 : Int32) (hC : ∀ v r', R_halves x1 x2 x3 x4 r = some (v, r') → mC r' = mC r) : Stq w p r (P_halves x1 x2 x3 x4 p) (R_halves x1 x2 x3 x4 r) := askm_j h (by omega) (st_halves h.1 h.2.1 h.2.2.2 (by omega) x1 x2 x3 x4)
theorem s_owed (h : Rel nc w p r) (hb : w + 537600 < 2147483647) (x1 x2 x3 : Int32) (hC : ∀ v r', R_owed x1 x2 x3 r = some (v, r') → mC r' = mC r) : Stq w p r (P_owed x1 x2 x3 p) (R_owed x1 x2 x3 r) := askm_j h (by omega) (st_owed h.1 h.2.1 h.2.2.2 (by omega) x1 x2 x3)
theorem s_turned (h : Rel nc w p r) (hb : w + 537600 < 2147483647) (x1 x2 : Int32) (hC : ∀ v r', R_turned x1 x2 r = some (v, r') → mC r' = mC r) : Stq w p r (P_turned x1 x2 p) (R_turned x1 x2 r) := askm_j h (by omega) (st_turned h.1 h.2.1 h.2.2.2 (by omega) x1 x2)
theorem s_shorted (h : Rel nc w p r) (hb : w + 537600 < 2147483647) (x1 x2 x3 x4 x5 : Int32) (hz : x4 = 0 ∨ x4 = 1) (hC : ∀ v r', R_shorted x1 x2 x3 x4 x5 r = some (v, r') → mC r' = mC r) : Stq w p r (P_shorted x1 x2 x3 x4 x5 p) (R_shorted x1 x2 x3 x4 x5 r) := by
  obtain ⟨s, rfl⟩ : ∃ s : Bool, x4 = tI s := by
    rcases hz with rfl | rfl
    · exact ⟨false, rfl⟩
    · exact ⟨true, rfl⟩
  exact askm_j h (by omega) (st_shorted h.1 h.2.1 h.2.2.2 (by omega) x1 x2 x3 s x5)
theorem s_tried (h : Rel nc w p r) (hb : w + 537600 < 2147483647) (x1 x2 x3 x4 x5 x6 x7 : Int32) (hC : ∀ v r', R_tried x1 x2 x3 x4 x5 x6 x7 r = some (v, r') → mC r' = mC r) : Stq w p r (P_tried x1 x2 x3 x4 x5 x6 x7 p) (R_tried x1 x2 x3 x4 x5 x6 x7 r) := askt_j h (by omega) (st_tried h.1 h.2.1 h.2.2.2 (by omega) x1 x2 x3 x4 x5 x6 x7)
theorem s_value (h : Rel nc w p r) (hb : w + 537600 < 2147483647) (x1 x2 : Int32) (hC : ∀ v r', R_value x1 x2 r = some (v, r') → mC r' = mC r) : Stq w p r (P_value x1 x2 p) (R_value x1 x2 r) := by
  obtain ⟨v, p', r', e1, e2, L, c, c', m1, m2⟩ := st_value h.2.2.1.2.1 x1 x2
  exact prt_j h ⟨v, p', r', e1, e2, L, c.mono (by decide) (by decide) (fun _ q => q), c'.mono (by decide) (by decide) (fun _ q => q), m1, m2, hC _ _ e2⟩
theorem s_apart (h : Rel nc w p r) (hb : w + 537600 < 2147483647) (x1 x2 x3 : Int32) (hz : x3 = 0 ∨ x3 = 1) (hC : ∀ v r', R_apart x1 x2 x3 r = some (v, r') → mC r' = mC r) : Stq w p r (P_apart x1 x2 x3 p) (R_apart x1 x2 x3 r) := by
  obtain ⟨v, p', r', e1, e2, L, c, c', m1, m2⟩ := st_apart h.2.2.1.2.1 x1 x2 x3 hz
  exact prt_j h ⟨v, p', r', e1, e2, L, c.mono (by decide) (by decide) (fun _ q => q), c'.mono (by decide) (by decide) (fun _ q => q), m1, m2, hC _ _ e2⟩
theorem s_parting (h : Rel nc w p r) (hb : w + 537600 < 2147483647) (x1 x2 x3 : Int32) (hC : ∀ v r', R_parting x1 x2 x3 r = some (v, r') → mC r' = mC r) : Stq w p r (P_parting x1 x2 x3 p) (R_parting x1 x2 x3 r) := by
  obtain ⟨v, p', r', e1, e2, L, c, c', m1, m2⟩ := st_parting h.2.2.1.2.1 h.p51.1 h.p51.2 x1 x2 x3
  exact prt_j h ⟨v, p', r', e1, e2, L, c.mono (by decide) (by decide) (fun _ q => q), c'.mono (by decide) (by decide) (fun _ q => q), m1, m2, hC _ _ e2⟩
end Cl
