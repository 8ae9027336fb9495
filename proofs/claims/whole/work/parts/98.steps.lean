/-! all steps -/
theorem steps_ok : ∃ Inv : Mem → Prop, StepsOk Inv := by
  refine ⟨fun σ => Rel σ σ, rel0, fun σ hi => ?_⟩
  refine ⟨?_, ?_, ?_, ?_, ?_, ?_, ?_, ?_, ?_, ?_, ?_, ?_, ?_, ?_, ?_, ?_, ?_, ?_, ?_, ?_, ?_, ?_, ?_, ?_, ?_, ?_, ?_, ?_, ?_, ?_, ?_, ?_, ?_, ?_, ?_, ?_, ?_, ?_⟩
  · exact fun a b c ha hb hc => (sim_set ha hb hc).step hi
  · exact fun a b ha hb => (sim_rule ha hb).step hi
  · exact fun a b ha hb => (sim_feed hb).step hi
  · exact sim_wipe.step hi
  · exact fun a ha => (sim_read ha).step hi
  · exact fun a b c ha hb hc => (sim_bar ha hb hc).step hi
  · exact fun a b c d ha hb hc hd => (sim_change ha hb hc hd).step hi
  · exact fun a b c ha hb hc => (sim_cut ha hb hc).step hi
  · exact fun a b c ha hb hc => (sim_free ha hb hc).step hi
  · exact fun a b c ha hb hc => (sim_room ha hb hc).step hi
  · exact fun a b c d ha hb hc hd => (sim_line ha hb hc hd).step hi
  · exact fun a b c d ha hb hc hd => (sim_page ha hb hc hd).step hi
  · exact fun a b ha hb => (sim_best ha hb).step hi
  · exact fun a b c ha hb hc => (sim_laid ha hb hc).step hi
  · exact fun a b ha hb => (sim_ends ha hb).step hi
  · exact fun a b ha hb => (sim_stop ha hb).step hi
  · exact fun a ha => (sim_hearts ha).step hi
  · exact fun a ha => (sim_folds ha).step hi
  · exact fun a ha => (sim_needs ha).step hi
  · exact fun a b ha hb => (sim_together ha hb).step hi
  · exact fun a ha => (sim_all ha).step hi
  · exact fun a b c ha hb hc => (sim_lay ha hb hc).step hi
  · exact fun a b ha hb => (sim_breakOf ha hb).step hi
  · exact fun a ha => (sim_clear ha).step hi
  · exact fun a ha => (sim_price ha).step hi
  · exact fun a ha => (sim_judge ha).step hi
  · exact fun a b ha hb => (sim_hold ha hb).step hi
  · exact fun a b ha hb => (sim_as ha hb).step hi
  · exact fun a b c ha hb hc => (sim_sheet ha hb hc).step hi
  · exact fun a b c ha hb hc => (sim_write ha hb hc).step hi
  · exact fun a b c d e ha hb hc hd he => (sim_copy ha hb hc hd he).step hi
  · exact fun a b ha hb => (sim_rooms ha hb).step hi
  · exact fun a b ha hb => (sim_pages ha hb).step hi
  · exact sim_image.step hi
  · exact sim_undo.step hi
  · exact sim_tear.step hi
  · exact fun a ha => (sim_count ha).step hi
  · exact fun a ha => (sim_status ha).step hi
