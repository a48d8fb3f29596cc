def RR (Sx Sm : ST) : Prop := Sx.1 1 = Sm.1 1
theorem RR0 : RR X0 M0 := rfl
theorem sim_feed {Sx Sm : ST} (h : RR Sx Sm) (a0 a1 a2 a3 a4 : Int32) : ∃ r Sx' Sm', x11_feed Sx a0 a1 a2 a3 a4 = some (r, Sx') ∧ m_feed Sm a0 a1 a2 a3 a4 = some (r, Sm') ∧ RR Sx' Sm' := sorry
theorem sim_back {Sx Sm : ST} (h : RR Sx Sm) (a0 : Int32) : ∃ r Sx' Sm', x11_back Sx a0 = some (r, Sx') ∧ m_back Sm a0 = some (r, Sm') ∧ RR Sx' Sm' := sorry
theorem sim_read {Sx Sm : ST} (h : RR Sx Sm) : ∃ r Sx' Sm', x11_read Sx = some (r, Sx') ∧ m_read Sm = some (r, Sm') ∧ RR Sx' Sm' := sorry
theorem sim_place {Sx Sm : ST} (h : RR Sx Sm) : ∃ r Sx' Sm', x11_place Sx = some (r, Sx') ∧ m_place Sm = some (r, Sm') ∧ RR Sx' Sm' := sorry
theorem sim_line {Sx Sm : ST} (h : RR Sx Sm) (a0 a1 a2 a3 a4 : Int32) : ∃ r Sx' Sm', x11_line Sx a0 a1 a2 a3 a4 = some (r, Sx') ∧ m_line Sm a0 a1 a2 a3 a4 = some (r, Sm') ∧ RR Sx' Sm' := sorry
theorem sim_reads {Sx Sm : ST} (h : RR Sx Sm) (a0 a1 a2 a3 a4 a5 : Int32) : ∃ r Sx' Sm', x11_reads Sx a0 a1 a2 a3 a4 a5 = some (r, Sx') ∧ m_reads Sm a0 a1 a2 a3 a4 a5 = some (r, Sm') ∧ RR Sx' Sm' := sorry
theorem sim_sits {Sx Sm : ST} (h : RR Sx Sm) (a0 a1 a2 : Int32) : ∃ r Sx' Sm', x11_sits Sx a0 a1 a2 = some (r, Sx') ∧ m_sits Sm a0 a1 a2 = some (r, Sm') ∧ RR Sx' Sm' := sorry
theorem sim_office {Sx Sm : ST} (h : RR Sx Sm) (a0 a1 : Int32) : ∃ r Sx' Sm', x11_office Sx a0 a1 = some (r, Sx') ∧ m_office Sm a0 a1 = some (r, Sm') ∧ RR Sx' Sm' := sorry
theorem sim_paper {Sx Sm : ST} (h : RR Sx Sm) (a0 a1 a2 : Int32) : ∃ r Sx' Sm', x11_paper Sx a0 a1 a2 = some (r, Sx') ∧ m_paper Sm a0 a1 a2 = some (r, Sm') ∧ RR Sx' Sm' := sorry
theorem sim_fact {Sx Sm : ST} (h : RR Sx Sm) (a0 a1 a2 a3 : Int32) : ∃ r Sx' Sm', x11_fact Sx a0 a1 a2 a3 = some (r, Sx') ∧ m_fact Sm a0 a1 a2 a3 = some (r, Sm') ∧ RR Sx' Sm' := sorry
theorem sim_rename {Sx Sm : ST} (h : RR Sx Sm) (a0 a1 a2 : Int32) : ∃ r Sx' Sm', x11_rename Sx a0 a1 a2 = some (r, Sx') ∧ m_rename Sm a0 a1 a2 = some (r, Sm') ∧ RR Sx' Sm' := sorry
theorem sim_vote {Sx Sm : ST} (h : RR Sx Sm) (a0 a1 a2 a3 : Int32) : ∃ r Sx' Sm', x11_vote Sx a0 a1 a2 a3 = some (r, Sx') ∧ m_vote Sm a0 a1 a2 a3 = some (r, Sm') ∧ RR Sx' Sm' := sorry
theorem sim_rules {Sx Sm : ST} (h : RR Sx Sm) (a0 : Int32) : ∃ r Sx' Sm', x11_rules Sx a0 = some (r, Sx') ∧ m_rules Sm a0 = some (r, Sm') ∧ RR Sx' Sm' := sorry
theorem sim_rule {Sx Sm : ST} (h : RR Sx Sm) (a0 a1 a2 : Int32) : ∃ r Sx' Sm', x11_rule Sx a0 a1 a2 = some (r, Sx') ∧ m_rule Sm a0 a1 a2 = some (r, Sm') ∧ RR Sx' Sm' := sorry
theorem sim_who {Sx Sm : ST} (h : RR Sx Sm) (a0 a1 a2 : Int32) : ∃ r Sx' Sm', x11_who Sx a0 a1 a2 = some (r, Sx') ∧ m_who Sm a0 a1 a2 = some (r, Sm') ∧ RR Sx' Sm' := sorry
theorem sim_printed {Sx Sm : ST} (h : RR Sx Sm) (a0 a1 a2 a3 : Int32) : ∃ r Sx' Sm', x11_printed Sx a0 a1 a2 a3 = some (r, Sx') ∧ m_printed Sm a0 a1 a2 a3 = some (r, Sm') ∧ RR Sx' Sm' := sorry
theorem sim_mended {Sx Sm : ST} (h : RR Sx Sm) (a0 a1 : Int32) : ∃ r Sx' Sm', x11_mended Sx a0 a1 = some (r, Sx') ∧ m_mended Sm a0 a1 = some (r, Sm') ∧ RR Sx' Sm' := sorry
theorem sim_bar {Sx Sm : ST} (h : RR Sx Sm) (a0 a1 : Int32) : ∃ r Sx' Sm', x11_bar Sx a0 a1 = some (r, Sx') ∧ m_bar Sm a0 a1 = some (r, Sm') ∧ RR Sx' Sm' := sorry
theorem sim_lines {Sx Sm : ST} (h : RR Sx Sm) (a0 a1 a2 : Int32) : ∃ r Sx' Sm', x11_lines Sx a0 a1 a2 = some (r, Sx') ∧ m_lines Sm a0 a1 a2 = some (r, Sm') ∧ RR Sx' Sm' := sorry
theorem sim_at {Sx Sm : ST} (h : RR Sx Sm) (a0 a1 a2 a3 : Int32) : ∃ r Sx' Sm', x11_at Sx a0 a1 a2 a3 = some (r, Sx') ∧ m_at Sm a0 a1 a2 a3 = some (r, Sm') ∧ RR Sx' Sm' := sorry
theorem sim_court {Sx Sm : ST} (h : RR Sx Sm) (a0 a1 a2 : Int32) : ∃ r Sx' Sm', x11_court Sx a0 a1 a2 = some (r, Sx') ∧ m_court Sm a0 a1 a2 = some (r, Sm') ∧ RR Sx' Sm' := sorry
theorem sim_take {Sx Sm : ST} (h : RR Sx Sm) (a0 a1 : Int32) : ∃ r Sx' Sm', x11_take Sx a0 a1 = some (r, Sx') ∧ m_take Sm a0 a1 = some (r, Sm') ∧ RR Sx' Sm' := sorry
theorem sim_clear {Sx Sm : ST} (h : RR Sx Sm) : ∃ Sx' Sm', x11_clear Sx = some Sx' ∧ m_clear Sm = some Sm' ∧ RR Sx' Sm' := sorry
theorem sim_join {Sx Sm : ST} (h : RR Sx Sm) : ∃ r Sx' Sm', x11_join Sx = some (r, Sx') ∧ m_join Sm = some (r, Sm') ∧ RR Sx' Sm' := sorry
theorem sim_joined {Sx Sm : ST} (h : RR Sx Sm) (a0 : Int32) : ∃ r Sx' Sm', x11_joined Sx a0 = some (r, Sx') ∧ m_joined Sm a0 = some (r, Sm') ∧ RR Sx' Sm' := sorry
theorem sim_apart {Sx Sm : ST} (h : RR Sx Sm) (a0 a1 : Int32) : ∃ r Sx' Sm', x11_apart Sx a0 a1 = some (r, Sx') ∧ m_apart Sm a0 a1 = some (r, Sm') ∧ RR Sx' Sm' := sorry
theorem sim_sum {Sx Sm : ST} (h : RR Sx Sm) (a0 a1 a2 : Int32) : ∃ r Sx' Sm', x11_sum Sx a0 a1 a2 = some (r, Sx') ∧ m_sum Sm a0 a1 a2 = some (r, Sm') ∧ RR Sx' Sm' := sorry
theorem sim_doubles {Sx Sm : ST} (h : RR Sx Sm) (a0 a1 : Int32) : ∃ r Sx' Sm', x11_doubles Sx a0 a1 = some (r, Sx') ∧ m_doubles Sm a0 a1 = some (r, Sm') ∧ RR Sx' Sm' := sorry
theorem sim_moved {Sx Sm : ST} (h : RR Sx Sm) (a0 a1 : Int32) : ∃ r Sx' Sm', x11_moved Sx a0 a1 = some (r, Sx') ∧ m_moved Sm a0 a1 = some (r, Sm') ∧ RR Sx' Sm' := sorry
theorem sim_reporter {Sx Sm : ST} (h : RR Sx Sm) (a0 a1 a2 : Int32) : ∃ r Sx' Sm', x11_reporter Sx a0 a1 a2 = some (r, Sx') ∧ m_reporter Sm a0 a1 a2 = some (r, Sm') ∧ RR Sx' Sm' := sorry
theorem sim_roster {Sx Sm : ST} (h : RR Sx Sm) (a0 a1 : Int32) : ∃ r Sx' Sm', x11_roster Sx a0 a1 = some (r, Sx') ∧ m_roster Sm a0 a1 = some (r, Sm') ∧ RR Sx' Sm' := sorry
theorem sim_turn {Sx Sm : ST} (h : RR Sx Sm) (a0 : Int32) : ∃ r Sx' Sm', x11_turn Sx a0 = some (r, Sx') ∧ m_turn Sm a0 = some (r, Sm') ∧ RR Sx' Sm' := sorry
theorem sim_names {Sx Sm : ST} (h : RR Sx Sm) (a0 a1 a2 : Int32) : ∃ r Sx' Sm', x11_names Sx a0 a1 a2 = some (r, Sx') ∧ m_names Sm a0 a1 a2 = some (r, Sm') ∧ RR Sx' Sm' := sorry
theorem sim_found {Sx Sm : ST} (h : RR Sx Sm) (a0 a1 a2 a3 : Int32) : ∃ r Sx' Sm', x11_found Sx a0 a1 a2 a3 = some (r, Sx') ∧ m_found Sm a0 a1 a2 a3 = some (r, Sm') ∧ RR Sx' Sm' := sorry
theorem sim_same {Sx Sm : ST} (h : RR Sx Sm) (a0 a1 a2 a3 : Int32) : ∃ r Sx' Sm', x11_same Sx a0 a1 a2 a3 = some (r, Sx') ∧ m_same Sm a0 a1 a2 a3 = some (r, Sm') ∧ RR Sx' Sm' := sorry
theorem sim_count {Sx Sm : ST} (h : RR Sx Sm) (a0 : Int32) : ∃ r Sx' Sm', x11_count Sx a0 = some (r, Sx') ∧ m_count Sm a0 = some (r, Sm') ∧ RR Sx' Sm' := sorry
