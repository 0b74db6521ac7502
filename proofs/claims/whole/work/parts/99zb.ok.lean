/-! All calls answer alike and keep the relation. -/
theorem kz_0 : kl_o0 kw_Rel := fun σX σM a1 a2 a3 a4 a5 h => by
  obtain ⟨a, τX, τM, h1, h2, h3⟩ := ko_feed (a1 := a1) (a2 := a2) (a3 := a3) (a4 := a4) (a5 := a5) h
  exact ⟨(a, τX), (a, τM), h1, h2, rfl, h3⟩
theorem kz_1 : kl_o1 kw_Rel := fun σX σM a1 h => by
  obtain ⟨a, τX, τM, h1, h2, h3⟩ := ko_net (a1 := a1) h
  exact ⟨(a, τX), (a, τM), h1, h2, rfl, h3⟩
theorem kz_2 : kl_o2 kw_Rel := fun σX σM a1 h => by
  obtain ⟨a, τX, τM, h1, h2, h3⟩ := ko_orders (a1 := a1) h
  exact ⟨(a, τX), (a, τM), h1, h2, rfl, h3⟩
theorem kz_3 : kl_o3 kw_Rel := fun σX σM a1 a2 a3 h => by
  obtain ⟨a, τX, τM, h1, h2, h3⟩ := ko_lay (a1 := a1) (a2 := a2) (a3 := a3) h
  refine ⟨(a, τX), (a, τM), ?_, h2, rfl, h3⟩
  unfold fX9_lay
  rw [h1, Option.bind_some]
theorem kz_4 : kl_o4 kw_Rel := fun σX σM a1 a2 h => by
  obtain ⟨a, τX, τM, h1, h2, h3⟩ := ko_length (a1 := a1) (a2 := a2) h
  refine ⟨(a, τX), (a, τM), ?_, h2, rfl, h3⟩
  unfold fX9_length
  rw [h1, Option.bind_some]
theorem kz_5 : kl_o5 kw_Rel := fun σX σM a1 h => by
  obtain ⟨a, τX, τM, h1, h2, h3⟩ := ko_turn (a1 := a1) (b := false) h
  refine ⟨(a, τX), (a, τM), ?_, ?_, rfl, h3⟩
  · unfold fX9_close
    rw [show fX9_turnRoad a1 0 σX = some (a, τX) from h1, Option.bind_some]
  · unfold fX10_close
    rw [show fX10_turns a1 0 σM = some (a, τM) from h2, Option.bind_some]
theorem kz_6 : kl_o6 kw_Rel := fun σX σM a1 h => by
  obtain ⟨a, τX, τM, h1, h2, h3⟩ := ko_turn (a1 := a1) (b := true) h
  refine ⟨(a, τX), (a, τM), ?_, ?_, rfl, h3⟩
  · unfold fX9_open
    rw [show fX9_turnRoad a1 1 σX = some (a, τX) from h1, Option.bind_some]
  · unfold fX10_open
    rw [show fX10_turns a1 1 σM = some (a, τM) from h2, Option.bind_some]
theorem kz_7 : kl_o7 kw_Rel := fun σX σM a1 h => by
  obtain ⟨a, τX, τM, h1, h2, h3⟩ := ko_origin (a1 := a1) h
  refine ⟨(a, τX), (a, τM), ?_, h2, rfl, h3⟩
  unfold fX9_origin
  rw [h1, Option.bind_some]
theorem kz_8 : kl_o8 kw_Rel := fun σX σM a1 h => by
  obtain ⟨a, τX, τM, h1, h2, h3⟩ := ko_count (a1 := a1) h
  exact ⟨(a, τX), (a, τM), h1, h2, rfl, h3⟩
theorem kz_9 : kl_o9 kw_Rel := fun σX σM a1 a2 h => by
  obtain ⟨a, τM, h1, h2, h3⟩ := ko_road9 (a1 := a1) (a2 := a2) h
  exact ⟨a, (a, τM), h1, h2, rfl, h3⟩
theorem kz_10 : kl_o10 kw_Rel := fun σX σM a1 a2 h => by
  obtain ⟨a, τM, h1, h2, h3⟩ := ko_change (a1 := a1) (a2 := a2) h
  exact ⟨a, (a, τM), h1, h2, rfl, h3⟩
theorem kz_11 : kl_o11 kw_Rel := fun σX σM a1 a2 h => by
  obtain ⟨a, τX, τM, h1, h2, h3⟩ := ko_town (a1 := a1) (a2 := a2) h
  exact ⟨(a, τX), (a, τM), h1, h2, rfl, h3⟩
theorem kz_12 : kl_o12 kw_Rel := fun σX σM a1 a2 h => by
  obtain ⟨a, τX, τM, h1, h2, h3⟩ := ko_way (a1 := a1) (a2 := a2) h
  exact ⟨(a, τX), (a, τM), h1, h2, rfl, h3⟩
theorem kz_13 : kl_o13 kw_Rel := fun σX σM a1 a2 h => by
  obtain ⟨a, τX, τM, h1, h2, h3⟩ := ko_needed (a1 := a1) (a2 := a2) h
  exact ⟨(a, τX), (a, τM), h1, h2, rfl, h3⟩
theorem kz_14 : kl_o14 kw_Rel := fun σX σM a1 h => by
  obtain ⟨a, h1, h2⟩ := ko_touched (a1 := a1) h
  exact ⟨a, a, h1, h2, rfl, h⟩
theorem kz_15 : kl_o15 kw_Rel := fun σX σM a1 a2 h => by
  obtain ⟨a, τX, τM, h1, h2, h3⟩ := ko_without (a1 := a1) (a2 := a2) h
  exact ⟨(a, τX), (a, τM), h1, h2, rfl, h3⟩
theorem kz_16 : kl_o16 kw_Rel := fun σX σM a1 a2 h => by
  obtain ⟨a, τX, τM, h1, h2, h3⟩ := ko_between (a1 := a1) (a2 := a2) h
  exact ⟨(a, τX), (a, τM), h1, h2, rfl, h3⟩
theorem kz_17 : kl_o17 kw_Rel := fun σX σM a1 a2 h => by
  obtain ⟨a, τX, τM, h1, h2, h3⟩ := ko_free (a1 := a1) (a2 := a2) h
  exact ⟨(a, τX), (a, τM), h1, h2, rfl, h3⟩
theorem kz_18 : kl_o18 kw_Rel := fun σX σM a1 a2 h => by
  obtain ⟨a, τX, τM, h1, h2, h3⟩ := ko_hops (a1 := a1) (a2 := a2) h
  exact ⟨(a, τX), (a, τM), h1, h2, rfl, h3⟩
theorem kz_19 : kl_o19 kw_Rel := fun σX σM a1 a2 h => by
  obtain ⟨a, τX, τM, h1, h2, h3⟩ := ko_meet (a1 := a1) (a2 := a2) h
  exact ⟨(a, τX), (a, τM), h1, h2, rfl, h3⟩
theorem kz_20 : kl_o20 kw_Rel := fun σX σM a1 a2 h => by
  obtain ⟨a, τX, τM, h1, h2, h3⟩ := ko_through (a1 := a1) (a2 := a2) h
  exact ⟨(a, τX), (a, τM), h1, h2, rfl, h3⟩
theorem kz_21 : kl_o21 kw_Rel := fun σX σM a1 a2 h => by
  obtain ⟨a, τX, τM, h1, h2, h3⟩ := ko_shortcut (a1 := a1) (a2 := a2) h
  exact ⟨(a, τX), (a, τM), h1, h2, rfl, h3⟩
theorem kz_22 : kl_o22 kw_Rel := fun σX σM a1 h => by
  obtain ⟨a, τX, τM, h1, h2, h3⟩ := ko_mean (a1 := a1) h
  exact ⟨(a, τX), (a, τM), h1, h2, rfl, h3⟩
theorem kz_23 : kl_o23 kw_Rel := fun σX σM a1 a2 h => by
  obtain ⟨a, τX, τM, h1, h2, h3⟩ := ko_round (a1 := a1) (a2 := a2) h
  exact ⟨(a, τX), (a, τM), h1, h2, rfl, h3⟩
theorem kz_24 : kl_o24 kw_Rel := fun σX σM a1 a2 h => by
  obtain ⟨a, τX, τM, h1, h2, h3⟩ := ko_watch (a1 := a1) (a2 := a2) h
  refine ⟨(a, τX), (a, τM), ?_, h2, rfl, h3⟩
  unfold fX9_watch
  rw [h1, Option.bind_some]
theorem kz_25 : kl_o25 kw_Rel := fun σX σM a1 h => by
  obtain ⟨a, τX, τM, h1, h2, h3⟩ := ko_forget (a1 := a1) h
  refine ⟨(kx_fl a, τX), (kx_fl a, τM), ?_, h2, rfl, h3⟩
  unfold fX9_forget
  rw [h1, Option.bind_some]
  exact kn_chkB
theorem kz_26 : kl_o26 kw_Rel := fun σX σM a1 a2 h => by
  obtain ⟨a, h1, h2⟩ := ko_event (a1 := a1) (a2 := a2) h
  exact ⟨a, a, h1, h2, rfl, h⟩
theorem kz_27 : kl_o27 kw_Rel := fun σX σM a1 a2 h => by
  obtain ⟨a, τX, τM, h1, h2, h3⟩ := ko_ifLength (a1 := a1) (a2 := a2) h
  exact ⟨(a, τX), (a, τM), h1, h2, rfl, h3⟩
theorem kz_28 : kl_o28 kw_Rel := fun σX σM a1 a2 h => by
  obtain ⟨a, τX, τM, h1, h2, h3⟩ := ko_drawn (a1 := a1) (a2 := a2) h
  exact ⟨(a, τX), (a, τM), h1, h2, rfl, h3⟩
theorem kz_29 : kl_o29 kw_Rel := fun σX σM a1 h => by
  obtain ⟨a, τX, τM, h1, h2, h3⟩ := ko_seed (a1 := a1) h
  exact ⟨(a, τX), (a, τM), h1, h2, rfl, h3⟩
theorem kz_30 : kl_o30 kw_Rel := fun σX σM h => by
  obtain ⟨a, τX, τM, h1, h2, h3⟩ := ko_keep  h
  exact ⟨(a, τX), (a, τM), h1, h2, rfl, h3⟩
theorem kz_31 : kl_o31 kw_Rel := fun σX σM h => by
  obtain ⟨a, τX, τM, h1, h2, h3⟩ := ko_undo h
  exact ⟨(kx_fl a, τX), (kx_fl a, τM), h1, h2, rfl, h3⟩
theorem kz_32 : kl_o32 kw_Rel := fun σX σM a1 h => by
  obtain ⟨a, τX, τM, h1, h2, h3⟩ := ko_check (a1 := a1) h
  exact ⟨(a, τX), (a, τM), h1, h2, rfl, h3⟩
theorem kz_ok : kl_ok kw_Rel := ⟨kz_0, kz_1, kz_2, kz_3, kz_4, kz_5, kz_6, kz_7, kz_8, kz_9, kz_10, kz_11, kz_12, kz_13, kz_14, kz_15, kz_16, kz_17, kz_18, kz_19, kz_20, kz_21, kz_22, kz_23, kz_24, kz_25, kz_26, kz_27, kz_28, kz_29, kz_30, kz_31, kz_32⟩
