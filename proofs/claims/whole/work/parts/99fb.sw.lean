/-! the law: which call -/
set_option maxRecDepth 100000 in
set_option maxHeartbeats 8000000 in
theorem law_sw {E : En} {p : Program} {l : Launch} {e : Env} {s : State} {m : MethodId} {below : List Frame} {meth : Method} {c : Code} {A : Nat → Prop} {H : Heap} {locs : List Loc} {ls : Array Slot} {cells slots : Nat} {Q : State → Prop} {b L n0 : Nat} {xs : Nat → Int32} {x0 : Int32} {o_o : Nat} {o_q : Nat → Nat} {o_firstRefused : Int32} {o_firstKept : Int32} {k_o : Nat} {k_q : Nat → Nat} {k_signs : (Nat → Int32)} {k_length : Int32} {k_place : Int32} {k_behind : Int32} {k_kind : Int32} {k_value : Int32} {k_letters : Int64} {k_word : (Option Nat)} {d_o : Nat} {d_city : Value} {d_script : Value} {d_fault : Int32} {u_o : Nat} {u_q : Nat → Nat} {u_row : (Nat → Int32)} {u_leastRow : (Nat → Int32)} {u_needed : (Nat → Int32)} {u_likeSizes : (Nat → Int32)} {u_least : Int32} {u_ended : Int32} {u_monthsKept : Int32} {un_o : Nat} {un_f : Nat → Int64} {uw_o : Nat} {uw_f : Nat → Int64} {up_o : Nat → Nat} {up_q : Nat → Nat → Nat} {up_month : Nat → Int32} {up_power : Nat → Int32} {up_master : Nat → Int32} {up_left : Nat → Int32} {up_kept : Nat → Int32} {up_passed : Nat → Int32} {up_sizes : Nat → (Nat → Int32)} {up_fields : Nat → (Nat → Int32)} {up_liked : Nat → (Nat → Int32)} {s_o : Nat} {s_q : Nat → Nat} {s_month : Int32} {s_power : Int32} {s_master : Int32} {s_left : Int32} {s_kept : Int32} {s_passed : Int32} {s_sizes : (Nat → Int32)} {s_fields : (Nat → Int32)} {s_liked : (Nat → Int32)} {w_o : Nat} {w_q : Nat → Nat} {w_month : Int32} {w_power : Int32} {w_master : Int32} {w_left : Int32} {w_kept : Int32} {w_passed : Int32} {w_sizes : (Nat → Int32)} {w_fields : (Nat → Int32)} {w_liked : (Nat → Int32)} {h_o : Nat} {h_q : Nat → Nat} {h_steps : Int32} {h_next : Int32} {hb_o : Nat → Nat} {hb_q : Nat → Nat → Nat} {hb_month : Nat → Int32} {hb_power : Nat → Int32} {hb_master : Nat → Int32} {hb_left : Nat → Int32} {hb_kept : Nat → Int32} {hb_passed : Nat → Int32} {hb_sizes : Nat → (Nat → Int32)} {hb_fields : Nat → (Nat → Int32)} {hb_liked : Nat → (Nat → Int32)} {r_o : Nat} {r_q : Nat → Nat} {r_told : Int32} {r_dangers : (Nat → Int32)} {r_months : (Nat → Int32)} {r_sizes : (Nat → Int32)} {q_o : Nat → Nat} {q_laid : Nat → Int32} {qs_o : Nat → Nat} {qs_q : Nat → Nat → Nat} {qs_month : Nat → Int32} {qs_power : Nat → Int32} {qs_master : Nat → Int32} {qs_left : Nat → Int32} {qs_kept : Nat → Int32} {qs_passed : Nat → Int32} {qs_sizes : Nat → (Nat → Int32)} {qs_fields : Nat → (Nat → Int32)} {qs_liked : Nat → (Nat → Int32)} {qj_o : Nat → Nat} {qj_q : Nat → Nat → Nat} {qj_lines : Nat → Int32} {qj_kinds : Nat → (Nat → Int32)} {qj_firsts : Nat → (Nat → Int32)} {qj_seconds : Nat → (Nat → Int32)} {qr_o : Nat → Nat} {qr_q : Nat → Nat → Nat} {qr_told : Nat → Int32} {qr_dangers : Nat → (Nat → Int32)} {qr_months : Nat → (Nat → Int32)} {qr_sizes : Nat → (Nat → Int32)} {c_o : Nat} {c_q : Nat → Nat} {c_men : Int32} {c_consuls : Int32} {c_dangers : Int32} {c_decrees : Int32} {c_term : Int32} {c_termTold : Int32} {c_manNames : (Nat → Int64)} {c_kinds : (Nat → Int32)} {c_skills : (Nat → Int32)} {c_fields : (Nat → Int32)} {c_wants : (Nat → Int32)} {c_hated : (Nat → Int32)} {c_dangerNames : (Nat → Int64)} {c_sizes : (Nat → Int32)} {c_grows : (Nat → Int32)} {c_decreeNames : (Nat → Int64)} {c_grounds : (Nat → Int32)} {l_o : Nat} {l_q : Nat → Nat} {l_ops : (Nat → Int32)} {l_stack : (Nat → Int32)} {l_size : Int32} {l_worksFrom : Int32} {l_worksTo : Int32} {l_keepsFrom : Int32} {l_keepsTo : Int32} {e_o : Nat} {e_q : Nat → Nat} {e_men : Int32} {e_consuls : Int32} {e_dangers : Int32} {e_decrees : Int32} {e_term : Int32} {e_termTold : Int32} {e_manNames : (Nat → Int64)} {e_kinds : (Nat → Int32)} {e_skills : (Nat → Int32)} {e_fields : (Nat → Int32)} {e_wants : (Nat → Int32)} {e_hated : (Nat → Int32)} {e_dangerNames : (Nat → Int64)} {e_sizes : (Nat → Int32)} {e_grows : (Nat → Int32)} {e_decreeNames : (Nat → Int64)} {e_grounds : (Nat → Int32)} {f_o : Nat} {f_q : Nat → Nat} {f_ops : (Nat → Int32)} {f_stack : (Nat → Int32)} {f_size : Int32} {f_worksFrom : Int32} {f_worksTo : Int32} {f_keepsFrom : Int32} {f_keepsTo : Int32} {j_o : Nat} {j_q : Nat → Nat} {j_lines : Int32} {j_kinds : (Nat → Int32)} {j_firsts : (Nat → Int32)} {j_seconds : (Nat → Int32)} {i_o : Nat} {i_q : Nat → Nat} {i_lines : Int32} {i_kinds : (Nat → Int32)} {i_firsts : (Nat → Int32)} {i_seconds : (Nat → Int32)} {m_o : Nat} {m_q : Nat → Nat} {m_thrown : Int32} {m_taped : Int32} {m_tape : (Nat → Int32)} {m_size : Int32} {m_place : Int32} {m_begin : Int32} {m_token : Int32} {m_word : Int64} {m_told : Int32} {m_wrong : Int32} {m_city : (Nat → Int32)} {m_manName : (Nat → Int64)} {m_dangerName : (Nat → Int64)} {m_decreeName : (Nat → Int64)} {m_kind : (Nat → Int32)} {m_skill : (Nat → Int32)} {m_fieldTold : (Nat → Int32)} {m_want : (Nat → Int32)} {m_hates : (Nat → Int32)} {m_restsOn : (Nat → Int32)} {m_sizeTold : (Nat → Int32)} {m_grows : (Nat → Int32)} {m_lineFrom : (Nat → Int32)} {m_lineTo : (Nat → Int32)} {m_codes : (Nat → Int32)} {m_code : Int32} {m_lawLine : Int32} {m_toldLines : Int32} {m_opened : (Nat → Int32)} {m_compared : (Nat → Int32)} {m_kept : (Nat → Int32)} {m_keptBy : (Nat → Int32)} {m_ahead : (Nat → Int32)} {m_against : (Nat → Int32)} {m_sum : (Nat → Int32)} {m_sumBy : (Nat → Int32)} {m_term : (Nat → Int32)} {m_termBy : (Nat → Int32)} {m_byNot : (Nat → Int32)} {m_valueOf : (Nat → Int32)} {m_given : Int32} {m_fresh : Int64} {m_consulsMany : Int32} {m_lines : (Nat → Int32)} {m_lineWhat : (Nat → Int32)} {m_lineA : (Nat → Int32)} {m_lineB : (Nat → Int32)} {m_tolds : (Nat → Int32)} {m_toldDanger : (Nat → Int32)} {m_toldMonths : (Nat → Int32)} {m_toldSize : (Nat → Int32)} {m_s : (Nat → Int32)} {m_aside : (Nat → Int32)} {m_tried : (Nat → Int32)} {m_marked : (Nat → Int32)} {m_undone : (Nat → Int32)} {m_isLaid : (Nat → Int32)} {m_done : Int32} {m_heading : (Nat → Int32)} {m_bestHeading : (Nat → Int32)} {m_leastLeft : Int32} {m_goesTo : (Nat → Int32)} {m_bestGoes : (Nat → Int32)} {m_leastMonths : Int32} {m_g : Int64} {ou_o : Nat} {ou_f : Nat → Int64} (X : Bx E A p s m #[Value.ref b] meth c cL_law 7 R_law (some .boolean)) (S : Sx b L xs A s) (hgo : n0 + 7 ≤ L) (hc1 : cells + 1 ≤ room_1.cells) (hs6 : slots + 6 ≤ room_1.slots) {sa : Nat → Nat} (hlt : l.stackTraces = false) (hv : Xv sa s) (hc : Xc A s s.heap) (hl : lv_has ls 7 [(0, .ref b), (1, .ref o_o), (2, .ref m_o), (3, .ref ou_o), (4, .int (nI n0))]) (hR : RA c_men c_consuls c_dangers c_decrees c_term c_kinds c_skills c_fields c_wants c_hated c_sizes c_grows c_grounds c_manNames c_dangerNames c_decreeNames l_ops l_worksFrom l_worksTo l_keepsFrom l_keepsTo s_month s_power s_master s_left s_kept s_passed s_sizes s_fields s_liked h_steps h_next hb_month hb_power hb_master hb_left hb_kept hb_passed hb_sizes hb_fields hb_liked r_told r_dangers r_months r_sizes j_lines j_kinds j_firsts j_seconds q_laid qs_month qs_power qs_master qs_left qs_kept qs_passed qs_sizes qs_fields qs_liked qj_lines qj_kinds qj_firsts qj_seconds qr_told qr_dangers qr_months qr_sizes k_signs k_length m_city m_kind m_skill m_fieldTold m_want m_hates m_restsOn m_sizeTold m_grows m_lineFrom m_lineTo m_codes m_manName m_dangerName m_decreeName m_lines m_lineWhat m_lineA m_lineB m_tolds m_toldDanger m_toldMonths m_toldSize m_s m_marked m_undone m_isLaid m_done m_tape m_taped) (hw : Wd E A s.heap (WALL E o_o o_q o_firstRefused o_firstKept k_o k_q k_signs k_length k_place k_behind k_kind k_value k_letters k_word d_o d_city d_script d_fault u_o u_q u_row u_leastRow u_needed u_likeSizes u_least u_ended u_monthsKept un_o un_f uw_o uw_f up_o up_q up_month up_power up_master up_left up_kept up_passed up_sizes up_fields up_liked s_o s_q s_month s_power s_master s_left s_kept s_passed s_sizes s_fields s_liked w_o w_q w_month w_power w_master w_left w_kept w_passed w_sizes w_fields w_liked h_o h_q h_steps h_next hb_o hb_q hb_month hb_power hb_master hb_left hb_kept hb_passed hb_sizes hb_fields hb_liked r_o r_q r_told r_dangers r_months r_sizes q_o q_laid qs_o qs_q qs_month qs_power qs_master qs_left qs_kept qs_passed qs_sizes qs_fields qs_liked qj_o qj_q qj_lines qj_kinds qj_firsts qj_seconds qr_o qr_q qr_told qr_dangers qr_months qr_sizes c_o c_q c_men c_consuls c_dangers c_decrees c_term c_termTold c_manNames c_kinds c_skills c_fields c_wants c_hated c_dangerNames c_sizes c_grows c_decreeNames c_grounds l_o l_q l_ops l_stack l_size l_worksFrom l_worksTo l_keepsFrom l_keepsTo e_o e_q e_men e_consuls e_dangers e_decrees e_term e_termTold e_manNames e_kinds e_skills e_fields e_wants e_hated e_dangerNames e_sizes e_grows e_decreeNames e_grounds f_o f_q f_ops f_stack f_size f_worksFrom f_worksTo f_keepsFrom f_keepsTo j_o j_q j_lines j_kinds j_firsts j_seconds i_o i_q i_lines i_kinds i_firsts i_seconds m_o m_q m_thrown m_taped m_tape m_size m_place m_begin m_token m_word m_told m_wrong m_city m_manName m_dangerName m_decreeName m_kind m_skill m_fieldTold m_want m_hates m_restsOn m_sizeTold m_grows m_lineFrom m_lineTo m_codes m_code m_lawLine m_toldLines m_opened m_compared m_kept m_keptBy m_ahead m_against m_sum m_sumBy m_term m_termBy m_byNot m_valueOf m_given m_fresh m_consulsMany m_lines m_lineWhat m_lineA m_lineB m_tolds m_toldDanger m_toldMonths m_toldSize m_s m_aside m_tried m_marked m_undone m_isLaid m_done m_heading m_bestHeading m_leastLeft m_goesTo m_bestGoes m_leastMonths m_g ou_o ou_f) H locs) (kk : ∀ (H : Heap) (locs : List Loc) (ls : Array Slot), Inv E A s o_o m_o ou_o H locs → lv_has ls 7 [(0, .ref b), (1, .ref o_o), (2, .ref m_o), (3, .ref ou_o), (4, .int (nI n0))] → W p l e room_1 s m #[Value.ref b] below meth c H locs (cells + 1) (slots + 6) Q (F0 m 1265 ls [])) : W p l e room_1 s m #[Value.ref b] below meth c H locs cells slots Q (F0 m 40 ls [.int x0]) := by
  have hx := X.1.1
  have hb := X.1.2.1
  by_cases c_0 : x0 = (0 : Int32)
  · refine lv_tableIn (tgt := 172) hx hb dL_law_40 (by rw [c_0]; decide) (by rw [c_0]; decide) (by rw [c_0]; rfl) (by decide) ?_
    exact lw_feed X S hgo hc1 hs6 hl hR hw kk
  by_cases c_1 : x0 = (1 : Int32)
  · refine lv_tableIn (tgt := 319) hx hb dL_law_40 (by rw [c_1]; decide) (by rw [c_1]; decide) (by rw [c_1]; rfl) (by decide) ?_
    exact lw_city X S hgo hc1 hs6 hl hR hw kk
  by_cases c_2 : x0 = (2 : Int32)
  · refine lv_tableIn (tgt := 332) hx hb dL_law_40 (by rw [c_2]; decide) (by rw [c_2]; decide) (by rw [c_2]; rfl) (by decide) ?_
    exact lw_months X S hgo hc1 hs6 hl hR hw kk
  by_cases c_3 : x0 = (3 : Int32)
  · refine lv_tableIn (tgt := 345) hx hb dL_law_40 (by rw [c_3]; decide) (by rw [c_3]; decide) (by rw [c_3]; rfl) (by decide) ?_
    exact lw_man X S hgo hc1 hs6 hl hR hw kk
  by_cases c_4 : x0 = (4 : Int32)
  · refine lv_tableIn (tgt := 382) hx hb dL_law_40 (by rw [c_4]; decide) (by rw [c_4]; decide) (by rw [c_4]; rfl) (by decide) ?_
    exact lw_danger X S hgo hc1 hs6 hl hR hw kk
  by_cases c_5 : x0 = (5 : Int32)
  · refine lv_tableIn (tgt := 419) hx hb dL_law_40 (by rw [c_5]; decide) (by rw [c_5]; decide) (by rw [c_5]; rfl) (by decide) ?_
    exact lw_may X S hgo hc1 hs6 hl hR hw kk
  by_cases c_6 : x0 = (6 : Int32)
  · refine lv_tableIn (tgt := 456) hx hb dL_law_40 (by rw [c_6]; decide) (by rw [c_6]; decide) (by rw [c_6]; rfl) (by decide) ?_
    exact lw_name X S hgo hc1 hs6 hl hR hw kk
  by_cases c_7 : x0 = (7 : Int32)
  · refine lv_tableIn (tgt := 493) hx hb dL_law_40 (by rw [c_7]; decide) (by rw [c_7]; decide) (by rw [c_7]; rfl) (by decide) ?_
    exact lw_master X S hgo hc1 hs6 hl hR hw kk
  by_cases c_8 : x0 = (8 : Int32)
  · refine lv_tableIn (tgt := 518) hx hb dL_law_40 (by rw [c_8]; decide) (by rw [c_8]; decide) (by rw [c_8]; rfl) (by decide) ?_
    exact lw_month X S hgo hc1 hs6 hl hR hw kk
  by_cases c_9 : x0 = (9 : Int32)
  · refine lv_tableIn (tgt := 543) hx hb dL_law_40 (by rw [c_9]; decide) (by rw [c_9]; decide) (by rw [c_9]; rfl) (by decide) ?_
    exact lw_disobey X S hgo hc1 hs6 hl hR hw kk
  by_cases c_10 : x0 = (10 : Int32)
  · refine lv_tableIn (tgt := 580) hx hb dL_law_40 (by rw [c_10]; decide) (by rw [c_10]; decide) (by rw [c_10]; rfl) (by decide) ?_
    exact lw_lay X S hgo hc1 hs6 hl hR hw kk
  by_cases c_11 : x0 = (11 : Int32)
  · refine lv_tableIn (tgt := 593) hx hb dL_law_40 (by rw [c_11]; decide) (by rw [c_11]; decide) (by rw [c_11]; rfl) (by decide) ?_
    exact lw_undo X S hgo hc1 hs6 hl hR hw kk
  by_cases c_12 : x0 = (12 : Int32)
  · refine lv_tableIn (tgt := 606) hx hb dL_law_40 (by rw [c_12]; decide) (by rw [c_12]; decide) (by rw [c_12]; rfl) (by decide) ?_
    exact lw_judged X S hgo hc1 hs6 hl hR hw kk
  by_cases c_13 : x0 = (13 : Int32)
  · refine lv_tableIn (tgt := 631) hx hb dL_law_40 (by rw [c_13]; decide) (by rw [c_13]; decide) (by rw [c_13]; rfl) (by decide) ?_
    exact lw_soon X S hgo hc1 hs6 hl hR hw kk
  by_cases c_14 : x0 = (14 : Int32)
  · refine lv_tableIn (tgt := 668) hx hb dL_law_40 (by rw [c_14]; decide) (by rw [c_14]; decide) (by rw [c_14]; rfl) (by decide) ?_
    exact lw_whom X S hgo hc1 hs6 hl hR hw kk
  by_cases c_15 : x0 = (15 : Int32)
  · refine lv_tableIn (tgt := 693) hx hb dL_law_40 (by rw [c_15]; decide) (by rw [c_15]; decide) (by rw [c_15]; rfl) (by decide) ?_
    exact lw_terms X S hgo hc1 hs6 hl hR hw kk
  by_cases c_16 : x0 = (16 : Int32)
  · refine lv_tableIn (tgt := 718) hx hb dL_law_40 (by rw [c_16]; decide) (by rw [c_16]; decide) (by rw [c_16]; rfl) (by decide) ?_
    exact lw_headings X S hgo hc1 hs6 hl hR hw kk
  by_cases c_17 : x0 = (17 : Int32)
  · refine lv_tableIn (tgt := 755) hx hb dL_law_40 (by rw [c_17]; decide) (by rw [c_17]; decide) (by rw [c_17]; rfl) (by decide) ?_
    exact lw_all X S hgo hc1 hs6 hl hR hw kk
  by_cases c_18 : x0 = (18 : Int32)
  · refine lv_tableIn (tgt := 780) hx hb dL_law_40 (by rw [c_18]; decide) (by rw [c_18]; decide) (by rw [c_18]; rfl) (by decide) ?_
    exact lw_waits X S hgo hc1 hs6 hl hR hw kk
  by_cases c_19 : x0 = (19 : Int32)
  · refine lv_tableIn (tgt := 805) hx hb dL_law_40 (by rw [c_19]; decide) (by rw [c_19]; decide) (by rw [c_19]; rfl) (by decide) ?_
    exact lw_chance X S hgo hc1 hs6 hlt hv hc hl hR hw kk
  by_cases c_20 : x0 = (20 : Int32)
  · refine lv_tableIn (tgt := 897) hx hb dL_law_40 (by rw [c_20]; decide) (by rw [c_20]; decide) (by rw [c_20]; rfl) (by decide) ?_
    exact lw_falls X S hgo hc1 hs6 hl hR hw kk
  by_cases c_21 : x0 = (21 : Int32)
  · refine lv_tableIn (tgt := 922) hx hb dL_law_40 (by rw [c_21]; decide) (by rw [c_21]; decide) (by rw [c_21]; rfl) (by decide) ?_
    exact lw_anew X S hgo hc1 hs6 hl hR hw kk
  by_cases c_22 : x0 = (22 : Int32)
  · refine lv_tableIn (tgt := 959) hx hb dL_law_40 (by rw [c_22]; decide) (by rw [c_22]; decide) (by rw [c_22]; rfl) (by decide) ?_
    exact lw_tell X S hgo hc1 hs6 hl hR hw kk
  by_cases c_23 : x0 = (23 : Int32)
  · refine lv_tableIn (tgt := 1008) hx hb dL_law_40 (by rw [c_23]; decide) (by rw [c_23]; decide) (by rw [c_23]; rfl) (by decide) ?_
    exact lw_who X S hgo hc1 hs6 hl hR hw kk
  by_cases c_24 : x0 = (24 : Int32)
  · refine lv_tableIn (tgt := 1021) hx hb dL_law_40 (by rw [c_24]; decide) (by rw [c_24]; decide) (by rw [c_24]; rfl) (by decide) ?_
    exact lw_when X S hgo hc1 hs6 hl hR hw kk
  by_cases c_25 : x0 = (25 : Int32)
  · refine lv_tableIn (tgt := 1046) hx hb dL_law_40 (by rw [c_25]; decide) (by rw [c_25]; decide) (by rw [c_25]; rfl) (by decide) ?_
    exact lw_rests X S hgo hc1 hs6 hlt hv hc hl hR hw kk
  by_cases c_26 : x0 = (26 : Int32)
  · refine lv_tableIn (tgt := 1138) hx hb dL_law_40 (by rw [c_26]; decide) (by rw [c_26]; decide) (by rw [c_26]; rfl) (by decide) ?_
    exact lw_ages X S hgo hc1 hs6 hl hR hw kk
  by_cases c_27 : x0 = (27 : Int32)
  · refine lv_tableIn (tgt := 1187) hx hb dL_law_40 (by rw [c_27]; decide) (by rw [c_27]; decide) (by rw [c_27]; rfl) (by decide) ?_
    exact lw_mark X S hgo hc1 hs6 hl hR hw kk
  by_cases c_28 : x0 = (28 : Int32)
  · refine lv_tableIn (tgt := 1240) hx hb dL_law_40 (by rw [c_28]; decide) (by rw [c_28]; decide) (by rw [c_28]; rfl) (by decide) ?_
    exact lw_count X S hgo hc1 hs6 hl hR hw kk
  have n_0 : x0.toInt ≠ 0 := fun h => c_0 (Int32.toInt_inj.mp (h.trans (by decide)))
  have n_1 : x0.toInt ≠ 1 := fun h => c_1 (Int32.toInt_inj.mp (h.trans (by decide)))
  have n_2 : x0.toInt ≠ 2 := fun h => c_2 (Int32.toInt_inj.mp (h.trans (by decide)))
  have n_3 : x0.toInt ≠ 3 := fun h => c_3 (Int32.toInt_inj.mp (h.trans (by decide)))
  have n_4 : x0.toInt ≠ 4 := fun h => c_4 (Int32.toInt_inj.mp (h.trans (by decide)))
  have n_5 : x0.toInt ≠ 5 := fun h => c_5 (Int32.toInt_inj.mp (h.trans (by decide)))
  have n_6 : x0.toInt ≠ 6 := fun h => c_6 (Int32.toInt_inj.mp (h.trans (by decide)))
  have n_7 : x0.toInt ≠ 7 := fun h => c_7 (Int32.toInt_inj.mp (h.trans (by decide)))
  have n_8 : x0.toInt ≠ 8 := fun h => c_8 (Int32.toInt_inj.mp (h.trans (by decide)))
  have n_9 : x0.toInt ≠ 9 := fun h => c_9 (Int32.toInt_inj.mp (h.trans (by decide)))
  have n_10 : x0.toInt ≠ 10 := fun h => c_10 (Int32.toInt_inj.mp (h.trans (by decide)))
  have n_11 : x0.toInt ≠ 11 := fun h => c_11 (Int32.toInt_inj.mp (h.trans (by decide)))
  have n_12 : x0.toInt ≠ 12 := fun h => c_12 (Int32.toInt_inj.mp (h.trans (by decide)))
  have n_13 : x0.toInt ≠ 13 := fun h => c_13 (Int32.toInt_inj.mp (h.trans (by decide)))
  have n_14 : x0.toInt ≠ 14 := fun h => c_14 (Int32.toInt_inj.mp (h.trans (by decide)))
  have n_15 : x0.toInt ≠ 15 := fun h => c_15 (Int32.toInt_inj.mp (h.trans (by decide)))
  have n_16 : x0.toInt ≠ 16 := fun h => c_16 (Int32.toInt_inj.mp (h.trans (by decide)))
  have n_17 : x0.toInt ≠ 17 := fun h => c_17 (Int32.toInt_inj.mp (h.trans (by decide)))
  have n_18 : x0.toInt ≠ 18 := fun h => c_18 (Int32.toInt_inj.mp (h.trans (by decide)))
  have n_19 : x0.toInt ≠ 19 := fun h => c_19 (Int32.toInt_inj.mp (h.trans (by decide)))
  have n_20 : x0.toInt ≠ 20 := fun h => c_20 (Int32.toInt_inj.mp (h.trans (by decide)))
  have n_21 : x0.toInt ≠ 21 := fun h => c_21 (Int32.toInt_inj.mp (h.trans (by decide)))
  have n_22 : x0.toInt ≠ 22 := fun h => c_22 (Int32.toInt_inj.mp (h.trans (by decide)))
  have n_23 : x0.toInt ≠ 23 := fun h => c_23 (Int32.toInt_inj.mp (h.trans (by decide)))
  have n_24 : x0.toInt ≠ 24 := fun h => c_24 (Int32.toInt_inj.mp (h.trans (by decide)))
  have n_25 : x0.toInt ≠ 25 := fun h => c_25 (Int32.toInt_inj.mp (h.trans (by decide)))
  have n_26 : x0.toInt ≠ 26 := fun h => c_26 (Int32.toInt_inj.mp (h.trans (by decide)))
  have n_27 : x0.toInt ≠ 27 := fun h => c_27 (Int32.toInt_inj.mp (h.trans (by decide)))
  have n_28 : x0.toInt ≠ 28 := fun h => c_28 (Int32.toInt_inj.mp (h.trans (by decide)))
  refine lv_tableOut (tgt := 1265) hx hb dL_law_40 (by omega) (by decide) ?_
  refine W.widen (k := cells + 1) (n := slots + 6) (by omega) (by omega) ?_
  exact kk H locs ls ⟨o_q, o_firstRefused, o_firstKept, k_o, k_q, k_signs, k_length, k_place, k_behind, k_kind, k_value, k_letters, k_word, d_o, d_city, d_script, d_fault, u_o, u_q, u_row, u_leastRow, u_needed, u_likeSizes, u_least, u_ended, u_monthsKept, un_o, un_f, uw_o, uw_f, up_o, up_q, up_month, up_power, up_master, up_left, up_kept, up_passed, up_sizes, up_fields, up_liked, s_o, s_q, s_month, s_power, s_master, s_left, s_kept, s_passed, s_sizes, s_fields, s_liked, w_o, w_q, w_month, w_power, w_master, w_left, w_kept, w_passed, w_sizes, w_fields, w_liked, h_o, h_q, h_steps, h_next, hb_o, hb_q, hb_month, hb_power, hb_master, hb_left, hb_kept, hb_passed, hb_sizes, hb_fields, hb_liked, r_o, r_q, r_told, r_dangers, r_months, r_sizes, q_o, q_laid, qs_o, qs_q, qs_month, qs_power, qs_master, qs_left, qs_kept, qs_passed, qs_sizes, qs_fields, qs_liked, qj_o, qj_q, qj_lines, qj_kinds, qj_firsts, qj_seconds, qr_o, qr_q, qr_told, qr_dangers, qr_months, qr_sizes, c_o, c_q, c_men, c_consuls, c_dangers, c_decrees, c_term, c_termTold, c_manNames, c_kinds, c_skills, c_fields, c_wants, c_hated, c_dangerNames, c_sizes, c_grows, c_decreeNames, c_grounds, l_o, l_q, l_ops, l_stack, l_size, l_worksFrom, l_worksTo, l_keepsFrom, l_keepsTo, e_o, e_q, e_men, e_consuls, e_dangers, e_decrees, e_term, e_termTold, e_manNames, e_kinds, e_skills, e_fields, e_wants, e_hated, e_dangerNames, e_sizes, e_grows, e_decreeNames, e_grounds, f_o, f_q, f_ops, f_stack, f_size, f_worksFrom, f_worksTo, f_keepsFrom, f_keepsTo, j_o, j_q, j_lines, j_kinds, j_firsts, j_seconds, i_o, i_q, i_lines, i_kinds, i_firsts, i_seconds, m_q, m_thrown, m_taped, m_tape, m_size, m_place, m_begin, m_token, m_word, m_told, m_wrong, m_city, m_manName, m_dangerName, m_decreeName, m_kind, m_skill, m_fieldTold, m_want, m_hates, m_restsOn, m_sizeTold, m_grows, m_lineFrom, m_lineTo, m_codes, m_code, m_lawLine, m_toldLines, m_opened, m_compared, m_kept, m_keptBy, m_ahead, m_against, m_sum, m_sumBy, m_term, m_termBy, m_byNot, m_valueOf, m_given, m_fresh, m_consulsMany, m_lines, m_lineWhat, m_lineA, m_lineB, m_tolds, m_toldDanger, m_toldMonths, m_toldSize, m_s, m_aside, m_tried, m_marked, m_undone, m_isLaid, m_done, m_heading, m_bestHeading, m_leastLeft, m_goesTo, m_bestGoes, m_leastMonths, m_g, ou_f, hR, hw⟩ hl
