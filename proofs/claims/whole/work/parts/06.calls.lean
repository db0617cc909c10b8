/-! the classes, the methods, what calls rest on -/
theorem jc_0 : jm_cls 1 1 0 [(3, 8, 0), (3, 6, 0), (2, 11, 0), (0, 0, 0), (0, 0, 0)] RX0 TX0 5 tyX0 := by
  refine ⟨by decide, by decide +kernel, by decide +kernel, rfl, rfl, fun w hw => ?_, by decide +kernel, tyX0_ok, nmX0⟩
  have h : w ∈ lw_tbl ∧ goodWord w = true := by
    have e : u_ws RX0 TX0 5 = [227, 229, 231, 233, 235].filterMap (fun i => tables_1[i]?) := by decide +kernel
    have g : (u_ws RX0 TX0 5).all goodWord = true := by decide +kernel
    refine ⟨?_, List.all_eq_true.mp g w hw⟩
    rw [e] at hw
    obtain ⟨i, -, hi⟩ := List.mem_filterMap.mp hw
    exact List.mem_append_right _ (List.mem_of_getElem? hi)
  exact jm_in h.1 h.2
theorem jc_1 : jm_cls 2 1 1 [(3, 8, 0), (3, 6, 0), (2, 12, 0), (2, 13, 0), (2, 14, 0)] RX1 TX1 5 tyX1 := by
  refine ⟨by decide, by decide +kernel, by decide +kernel, rfl, rfl, fun w hw => ?_, by decide +kernel, tyX1_ok, nmX1⟩
  have h : w ∈ lw_tbl ∧ goodWord w = true := by
    have e : u_ws RX1 TX1 5 = [249, 251, 253, 255, 257].filterMap (fun i => tables_1[i]?) := by decide +kernel
    have g : (u_ws RX1 TX1 5).all goodWord = true := by decide +kernel
    refine ⟨?_, List.all_eq_true.mp g w hw⟩
    rw [e] at hw
    obtain ⟨i, -, hi⟩ := List.mem_filterMap.mp hw
    exact List.mem_append_right _ (List.mem_of_getElem? hi)
  exact jm_in h.1 h.2
theorem jc_2 : jm_cls 3 1 2 [(2, 15, 0), (0, 0, 0), (0, 0, 0)] RX2 TX2 3 tyX2 := by
  refine ⟨by decide, by decide +kernel, by decide +kernel, rfl, rfl, fun w hw => ?_, by decide +kernel, tyX2_ok, nmX2⟩
  have h : w ∈ lw_tbl ∧ goodWord w = true := by
    have e : u_ws RX2 TX2 3 = [160, 162, 164].filterMap (fun i => tables_1[i]?) := by decide +kernel
    have g : (u_ws RX2 TX2 3).all goodWord = true := by decide +kernel
    refine ⟨?_, List.all_eq_true.mp g w hw⟩
    rw [e] at hw
    obtain ⟨i, -, hi⟩ := List.mem_filterMap.mp hw
    exact List.mem_append_right _ (List.mem_of_getElem? hi)
  exact jm_in h.1 h.2
theorem jc_3 : jm_cls 4 1 3 [(2, 16, 0), (0, 0, 0), (0, 0, 0), (0, 0, 0), (0, 0, 0), (0, 0, 0), (0, 0, 0), (0, 0, 0)] RX3 TX3 8 tyX3 := by
  refine ⟨by decide, by decide +kernel, by decide +kernel, rfl, rfl, fun w hw => ?_, by decide +kernel, tyX3_ok, nmX3⟩
  have h : w ∈ lw_tbl ∧ goodWord w = true := by
    have e : u_ws RX3 TX3 8 = [38, 40, 42, 44, 46, 48, 50, 52].filterMap (fun i => tables_1[i]?) := by decide +kernel
    have g : (u_ws RX3 TX3 8).all goodWord = true := by decide +kernel
    refine ⟨?_, List.all_eq_true.mp g w hw⟩
    rw [e] at hw
    obtain ⟨i, -, hi⟩ := List.mem_filterMap.mp hw
    exact List.mem_append_right _ (List.mem_of_getElem? hi)
  exact jm_in h.1 h.2
theorem jc_4 : jm_cls 5 1 4 [(3, 8, 0), (3, 6, 0), (2, 17, 0), (2, 18, 0), (0, 0, 0), (0, 0, 0)] RX4 TX4 6 tyX4 := by
  refine ⟨by decide, by decide +kernel, by decide +kernel, rfl, rfl, fun w hw => ?_, by decide +kernel, tyX4_ok, nmX4⟩
  have h : w ∈ lw_tbl ∧ goodWord w = true := by
    have e : u_ws RX4 TX4 6 = [203, 205, 207, 209, 211, 213].filterMap (fun i => tables_1[i]?) := by decide +kernel
    have g : (u_ws RX4 TX4 6).all goodWord = true := by decide +kernel
    refine ⟨?_, List.all_eq_true.mp g w hw⟩
    rw [e] at hw
    obtain ⟨i, -, hi⟩ := List.mem_filterMap.mp hw
    exact List.mem_append_right _ (List.mem_of_getElem? hi)
  exact jm_in h.1 h.2
theorem jc_5 : jm_cls 6 1 5 [(3, 8, 0), (2, 19, 0), (2, 20, 0), (2, 21, 0)] RX5 TX5 4 tyX5 := by
  refine ⟨by decide, by decide +kernel, by decide +kernel, rfl, rfl, fun w hw => ?_, by decide +kernel, tyX5_ok, nmX5⟩
  have h : w ∈ lw_tbl ∧ goodWord w = true := by
    have e : u_ws RX5 TX5 4 = [180, 182, 184, 186].filterMap (fun i => tables_1[i]?) := by decide +kernel
    have g : (u_ws RX5 TX5 4).all goodWord = true := by decide +kernel
    refine ⟨?_, List.all_eq_true.mp g w hw⟩
    rw [e] at hw
    obtain ⟨i, -, hi⟩ := List.mem_filterMap.mp hw
    exact List.mem_append_right _ (List.mem_of_getElem? hi)
  exact jm_in h.1 h.2
theorem jc_6 : jm_cls 7 13 6 [(2, 22, 0), (2, 23, 0), (2, 24, 0), (0, 0, 0)] RX6 TX6 4 tyX6 := by
  refine ⟨by decide, by decide +kernel, by decide +kernel, rfl, rfl, fun w hw => ?_, by decide +kernel, tyX6_ok, nmX6⟩
  have h : w ∈ lw_tbl ∧ goodWord w = true := by
    have e : u_ws RX6 TX6 4 = [138, 140, 142, 144].filterMap (fun i => tables_1[i]?) := by decide +kernel
    have g : (u_ws RX6 TX6 4).all goodWord = true := by decide +kernel
    refine ⟨?_, List.all_eq_true.mp g w hw⟩
    rw [e] at hw
    obtain ⟨i, -, hi⟩ := List.mem_filterMap.mp hw
    exact List.mem_append_right _ (List.mem_of_getElem? hi)
  exact jm_in h.1 h.2
theorem jc_7 : jm_cls 8 2 7 [(0, 0, 0), (0, 0, 0), (0, 0, 0), (0, 0, 0), (0, 0, 0), (2, 25, 0), (2, 26, 0), (2, 27, 0), (2, 28, 0)] RX7 TX7 9 tyX7 := by
  refine ⟨by decide, by decide +kernel, by decide +kernel, rfl, rfl, fun w hw => ?_, by decide +kernel, tyX7_ok, nmX7⟩
  have h : w ∈ lw_tbl ∧ goodWord w = true := by
    have e : u_ws RX7 TX7 9 = [101, 103, 105, 107, 109, 111, 113, 115, 117].filterMap (fun i => tables_1[i]?) := by decide +kernel
    have g : (u_ws RX7 TX7 9).all goodWord = true := by decide +kernel
    refine ⟨?_, List.all_eq_true.mp g w hw⟩
    rw [e] at hw
    obtain ⟨i, -, hi⟩ := List.mem_filterMap.mp hw
    exact List.mem_append_right _ (List.mem_of_getElem? hi)
  exact jm_in h.1 h.2
theorem jc_8 : jm_cls 9 1 8 [(3, 4, 0), (3, 8, 0), (3, 8, 1), (3, 7, 0), (3, 3, 0), (2, 29, 0), (0, 0, 0), (3, 6, 0), (3, 5, 0), (3, 1, 0), (3, 2, 0), (2, 30, 0), (2, 31, 0), (2, 32, 0), (0, 0, 0), (1, 0, 0)] RX8 TX8 16 tyX8 := by
  refine ⟨by decide, by decide +kernel, by decide +kernel, rfl, rfl, fun w hw => ?_, by decide +kernel, tyX8_ok, nmX8⟩
  have h : w ∈ lw_tbl ∧ goodWord w = true := by
    have e : u_ws RX8 TX8 16 = [276, 278, 280, 282, 284, 286, 288, 290, 292, 294, 296, 298, 300, 302, 304, 306].filterMap (fun i => tables_1[i]?) := by decide +kernel
    have g : (u_ws RX8 TX8 16).all goodWord = true := by decide +kernel
    refine ⟨?_, List.all_eq_true.mp g w hw⟩
    rw [e] at hw
    obtain ⟨i, -, hi⟩ := List.mem_filterMap.mp hw
    exact List.mem_append_right _ (List.mem_of_getElem? hi)
  exact jm_in h.1 h.2
theorem jc_9 : jm_cls 10 1 9 [(0, 0, 0), (1, 0, 0), (2, 33, 0), (0, 0, 0), (0, 0, 0), (0, 0, 0), (0, 0, 0), (0, 0, 0), (0, 0, 0), (2, 34, 0), (2, 35, 0), (2, 36, 0), (2, 37, 0), (2, 38, 0), (0, 0, 0), (2, 39, 0), (2, 40, 0), (2, 41, 0), (2, 42, 0), (2, 43, 0), (0, 0, 0), (2, 44, 0), (2, 45, 0), (0, 0, 0), (2, 46, 0), (2, 47, 0), (0, 0, 0), (0, 0, 0)] RX9 TX9 28 tyX9 := by
  refine ⟨by decide, by decide +kernel, by decide +kernel, rfl, rfl, fun w hw => ?_, by decide +kernel, tyX9_ok, nmX9⟩
  have h : w ∈ lw_tbl ∧ goodWord w = true := by
    have e : u_ws RX9 TX9 28 = [802, 804, 806, 808, 810, 812, 814, 816, 818, 820, 822, 824, 826, 828, 830, 832, 834, 836, 838, 840, 842, 844, 846, 848, 850, 852, 854, 856].filterMap (fun i => tables_1[i]?) := by decide +kernel
    have g : (u_ws RX9 TX9 28).all goodWord = true := by decide +kernel
    refine ⟨?_, List.all_eq_true.mp g w hw⟩
    rw [e] at hw
    obtain ⟨i, -, hi⟩ := List.mem_filterMap.mp hw
    exact List.mem_append_right _ (List.mem_of_getElem? hi)
  exact jm_in h.1 h.2
theorem jl_8 : ∀ i' f, ([(3, 4, 0), (3, 8, 0), (3, 8, 1), (3, 7, 0), (3, 3, 0), (2, 29, 0), (0, 0, 0), (3, 6, 0), (3, 5, 0), (3, 1, 0), (3, 2, 0), (2, 30, 0), (2, 31, 0), (2, 32, 0), (0, 0, 0), (1, 0, 0)] : List (Nat × Nat × Nat))[i']? = some f → f.1 = 1 → i' = 15 := by
  intro i f h h1
  have hl := (List.getElem?_eq_some_iff.mp h).1
  have key : ∀ i < 16, (([(3, 4, 0), (3, 8, 0), (3, 8, 1), (3, 7, 0), (3, 3, 0), (2, 29, 0), (0, 0, 0), (3, 6, 0), (3, 5, 0), (3, 1, 0), (3, 2, 0), (2, 30, 0), (2, 31, 0), (2, 32, 0), (0, 0, 0), (1, 0, 0)] : List (Nat × Nat × Nat))[i]?.map (fun f => decide (f.1 = 1))) = some true → i = 15 := by decide +kernel
  exact key i hl (by rw [h]; simp [h1])
theorem jl_9 : ∀ i' f, ([(0, 0, 0), (1, 0, 0), (2, 33, 0), (0, 0, 0), (0, 0, 0), (0, 0, 0), (0, 0, 0), (0, 0, 0), (0, 0, 0), (2, 34, 0), (2, 35, 0), (2, 36, 0), (2, 37, 0), (2, 38, 0), (0, 0, 0), (2, 39, 0), (2, 40, 0), (2, 41, 0), (2, 42, 0), (2, 43, 0), (0, 0, 0), (2, 44, 0), (2, 45, 0), (0, 0, 0), (2, 46, 0), (2, 47, 0), (0, 0, 0), (0, 0, 0)] : List (Nat × Nat × Nat))[i']? = some f → f.1 = 1 → i' = 1 := by
  intro i f h h1
  have hl := (List.getElem?_eq_some_iff.mp h).1
  have key : ∀ i < 28, (([(0, 0, 0), (1, 0, 0), (2, 33, 0), (0, 0, 0), (0, 0, 0), (0, 0, 0), (0, 0, 0), (0, 0, 0), (0, 0, 0), (2, 34, 0), (2, 35, 0), (2, 36, 0), (2, 37, 0), (2, 38, 0), (0, 0, 0), (2, 39, 0), (2, 40, 0), (2, 41, 0), (2, 42, 0), (2, 43, 0), (0, 0, 0), (2, 44, 0), (2, 45, 0), (0, 0, 0), (2, 46, 0), (2, 47, 0), (0, 0, 0), (0, 0, 0)] : List (Nat × Nat × Nat))[i]?.map (fun f => decide (f.1 = 1))) = some true → i = 1 := by decide +kernel
  exact key i hl (by rw [h]; simp [h1])
abbrev mX0_weigh : jm_Y := (yX0_weigh, cX0_weigh, 3, none, 3)
abbrev mX0_fewest : jm_Y := (yX0_fewest, cX0_fewest, 2, (some .int), 2)
abbrev mX0_leastOf : jm_Y := (yX0_leastOf, cX0_leastOf, 8, (some .int), 2)
abbrev mX0_mostOf : jm_Y := (yX0_mostOf, cX0_mostOf, 7, (some .int), 1)
abbrev mX0_dearestOf : jm_Y := (yX0_dearestOf, cX0_dearestOf, 5, (some .int), 0)
abbrev mX1_begin : jm_Y := (yX1_begin, cX1_begin, 2, none, 4)
abbrev mX1_noteGains : jm_Y := (yX1_noteGains, cX1_noteGains, 3, none, 3)
abbrev mX1_pass : jm_Y := (yX1_pass, cX1_pass, 3, none, 2)
abbrev mX1_somebodyOwes : jm_Y := (yX1_somebodyOwes, cX1_somebodyOwes, 2, (some .boolean), 0)
abbrev mX1_allHave : jm_Y := (yX1_allHave, cX1_allHave, 3, (some .boolean), 0)
abbrev mX2_remember : jm_Y := (yX2_remember, cX2_remember, 2, none, 2)
abbrev mX2_takeBack : jm_Y := (yX2_takeBack, cX2_takeBack, 2, none, 2)
abbrev mX2_lose : jm_Y := (yX2_lose, cX2_lose, 1, none, 0)
abbrev mX3_hasRoom : jm_Y := (yX3_hasRoom, cX3_hasRoom, 1, (some .boolean), 0)
abbrev mX3_append : jm_Y := (yX3_append, cX3_append, 2, (some .int), 1)
abbrev mX3_empty : jm_Y := (yX3_empty, cX3_empty, 2, (some .int), 0)
abbrev mX3_readInto : jm_Y := (yX3_readInto, cX3_readInto, 3, (some .int), 5)
abbrev mX3_takesItem : jm_Y := (yX3_takesItem, cX3_takesItem, 3, (some .boolean), 4)
abbrev mX3_takesBars : jm_Y := (yX3_takesBars, cX3_takesBars, 2, (some .boolean), 3)
abbrev mX3_takesPart : jm_Y := (yX3_takesPart, cX3_takesPart, 5, (some .boolean), 3)
abbrev mX3_takesPlayer : jm_Y := (yX3_takesPlayer, cX3_takesPlayer, 3, (some .boolean), 3)
abbrev mX3_takesPurse : jm_Y := (yX3_takesPurse, cX3_takesPurse, 2, (some .boolean), 3)
abbrev mX3_takesFine : jm_Y := (yX3_takesFine, cX3_takesFine, 2, (some .boolean), 3)
abbrev mX3_takesEnd : jm_Y := (yX3_takesEnd, cX3_takesEnd, 1, (some .boolean), 2)
abbrev mX3_takesNumber : jm_Y := (yX3_takesNumber, cX3_takesNumber, 3, (some .boolean), 2)
abbrev mX3_next : jm_Y := (yX3_next, cX3_next, 2, none, 1)
abbrev mX3_isDigit : jm_Y := (yX3_isDigit, cX3_isDigit, 1, (some .boolean), 0)
abbrev mX4_lose : jm_Y := (yX4_lose, cX4_lose, 1, none, 0)
abbrev mX4_search : jm_Y := (yX4_search, cX4_search, 4, none, 3)
abbrev mX4_howManyWays : jm_Y := (yX4_howManyWays, cX4_howManyWays, 3, (some .int), 0)
abbrev mX4_poorestOfWay : jm_Y := (yX4_poorestOfWay, cX4_poorestOfWay, 4, (some .int), 2)
abbrev mX4_turnToNextWay : jm_Y := (yX4_turnToNextWay, cX4_turnToNextWay, 2, none, 0)
abbrev mX5_seat : jm_Y := (yX5_seat, cX5_seat, 3, none, 2)
abbrev mX5_handOut : jm_Y := (yX5_handOut, cX5_handOut, 3, none, 1)
abbrev mX5_letSleep : jm_Y := (yX5_letSleep, cX5_letSleep, 4, none, 1)
abbrev mX5_restersIn : jm_Y := (yX5_restersIn, cX5_restersIn, 3, (some .int), 0)
abbrev mX5_nobodys : jm_Y := (yX5_nobodys, cX5_nobodys, 1, (some .int), 0)
abbrev mX5_tutti : jm_Y := (yX5_tutti, cX5_tutti, 1, (some .int), 0)
abbrev mX5_pay : jm_Y := (yX5_pay, cX5_pay, 4, (some .int), 1)
abbrev mX5_cutFor : jm_Y := (yX5_cutFor, cX5_cutFor, 2, (some .int), 0)
abbrev mX5_payOfAll : jm_Y := (yX5_payOfAll, cX5_payOfAll, 3, (some .int), 2)
abbrev mX5_gain : jm_Y := (yX5_gain, cX5_gain, 2, (some .int), 2)
abbrev mX5_lives : jm_Y := (yX5_lives, cX5_lives, 2, (some .boolean), 3)
abbrev mX5_outOfBreath : jm_Y := (yX5_outOfBreath, cX5_outOfBreath, 2, (some .boolean), 1)
abbrev mX6_begin : jm_Y := (yX6_begin, cX6_begin, 1, none, 1)
abbrev mX6_become : jm_Y := (yX6_become, cX6_become, 2, none, 1)
abbrev mX7_begin : jm_Y := (yX7_begin, cX7_begin, 1, none, 0)
abbrev mX7_become : jm_Y := (yX7_become, cX7_become, 2, none, 1)
abbrev mX7_hasPart : jm_Y := (yX7_hasPart, cX7_hasPart, 2, (some .boolean), 0)
abbrev mX7_hasPlayer : jm_Y := (yX7_hasPlayer, cX7_hasPlayer, 2, (some .boolean), 0)
abbrev mX7_hasBar : jm_Y := (yX7_hasBar, cX7_hasBar, 2, (some .boolean), 0)
abbrev mX7_allBars : jm_Y := (yX7_allBars, cX7_allBars, 1, (some .int), 0)
abbrev mX8_type : jm_Y := (yX8_type, cX8_type, 2, (some .int), 2)
abbrev mX8_clear : jm_Y := (yX8_clear, cX8_clear, 1, (some .int), 1)
abbrev mX8_score : jm_Y := (yX8_score, cX8_score, 2, (some .int), 6)
abbrev mX8_part : jm_Y := (yX8_part, cX8_part, 3, (some .int), 1)
abbrev mX8_player : jm_Y := (yX8_player, cX8_player, 3, (some .int), 4)
abbrev mX8_coins : jm_Y := (yX8_coins, cX8_coins, 3, (some .int), 5)
abbrev mX8_now : jm_Y := (yX8_now, cX8_now, 2, (some .int), 5)
abbrev mX8_gives : jm_Y := (yX8_gives, cX8_gives, 4, (some .int), 3)
abbrev mX8_sleeps : jm_Y := (yX8_sleeps, cX8_sleeps, 5, (some .int), 3)
abbrev mX8_evening : jm_Y := (yX8_evening, cX8_evening, 3, (some .int), 4)
abbrev mX8_undo : jm_Y := (yX8_undo, cX8_undo, 1, (some .int), 3)
abbrev mX8_share : jm_Y := (yX8_share, cX8_share, 2, (some .int), 4)
abbrev mX8_costs : jm_Y := (yX8_costs, cX8_costs, 2, (some .int), 4)
abbrev mX8_exchange : jm_Y := (yX8_exchange, cX8_exchange, 6, (some .int), 4)
abbrev mX8_leftOut : jm_Y := (yX8_leftOut, cX8_leftOut, 4, (some .int), 4)
abbrev mX8_bars : jm_Y := (yX8_bars, cX8_bars, 2, (some .int), 4)
abbrev mX8_heard : jm_Y := (yX8_heard, cX8_heard, 2, (some .int), 2)
abbrev mX8_rests : jm_Y := (yX8_rests, cX8_rests, 2, (some .int), 4)
abbrev mX8_first : jm_Y := (yX8_first, cX8_first, 5, (some .int), 4)
abbrev mX8_noted : jm_Y := (yX8_noted, cX8_noted, 3, (some .int), 1)
abbrev mX8_forget : jm_Y := (yX8_forget, cX8_forget, 2, (some .int), 0)
abbrev mX8_who : jm_Y := (yX8_who, cX8_who, 3, (some .int), 3)
abbrev mX8_broke : jm_Y := (yX8_broke, cX8_broke, 2, (some .int), 5)
abbrev mX8_rich : jm_Y := (yX8_rich, cX8_rich, 3, (some .int), 5)
abbrev mX8_odds : jm_Y := (yX8_odds, cX8_odds, 9, (some .int), 2)
abbrev mX8_rate : jm_Y := (yX8_rate, cX8_rate, 3, (some .int), 6)
abbrev mX8_keep : jm_Y := (yX8_keep, cX8_keep, 2, (some .int), 2)
abbrev mX8_back : jm_Y := (yX8_back, cX8_back, 2, (some .int), 2)
abbrev mX8_count : jm_Y := (yX8_count, cX8_count, 2, (some .int), 0)
abbrev mX8_trace : jm_Y := (yX8_trace, cX8_trace, 1, (some .long), 0)
abbrev mX8_seatAll : jm_Y := (yX8_seatAll, cX8_seatAll, 1, none, 3)
abbrev mX8_payNow : jm_Y := (yX8_payNow, cX8_payNow, 2, (some .int), 4)
abbrev mX8_ownerOrNone : jm_Y := (yX8_ownerOrNone, cX8_ownerOrNone, 2, (some .int), 0)
abbrev mX8_partsOf : jm_Y := (yX8_partsOf, cX8_partsOf, 4, (some .int), 0)
abbrev mX8_restsOfAllBars : jm_Y := (yX8_restsOfAllBars, cX8_restsOfAllBars, 3, (some .int), 4)
abbrev mX8_costOf : jm_Y := (yX8_costOf, cX8_costOf, 4, (some .int), 3)
abbrev mX8_payIfExchanged : jm_Y := (yX8_payIfExchanged, cX8_payIfExchanged, 3, (some .int), 3)
abbrev mX8_sleepersIn : jm_Y := (yX8_sleepersIn, cX8_sleepersIn, 4, (some .int), 0)
abbrev mX8_loudness : jm_Y := (yX8_loudness, cX8_loudness, 7, (some .int), 1)
abbrev mX8_agreesWithNoted : jm_Y := (yX8_agreesWithNoted, cX8_agreesWithNoted, 3, (some .boolean), 2)
abbrev mX8_weightOf : jm_Y := (yX8_weightOf, cX8_weightOf, 5, (some .int), 0)
abbrev mX8_greatestDivisor : jm_Y := (yX8_greatestDivisor, cX8_greatestDivisor, 6, (some .int), 0)
abbrev mX8_longestRun : jm_Y := (yX8_longestRun, cX8_longestRun, 3, (some .int), 0)
abbrev mX8_savedAfter : jm_Y := (yX8_savedAfter, cX8_savedAfter, 2, (some .int), 1)
abbrev mX8_asPart : jm_Y := (yX8_asPart, cX8_asPart, 2, (some .int), 1)
abbrev mX8_asOboe : jm_Y := (yX8_asOboe, cX8_asOboe, 2, (some .int), 2)
abbrev mX8_asHorn : jm_Y := (yX8_asHorn, cX8_asHorn, 2, (some .int), 4)
abbrev mX8_asSolo : jm_Y := (yX8_asSolo, cX8_asSolo, 2, (some .int), 3)
abbrev mX8_asDrum : jm_Y := (yX8_asDrum, cX8_asDrum, 2, (some .int), 5)
abbrev mX8_asFugue : jm_Y := (yX8_asFugue, cX8_asFugue, 2, (some .int), 2)
abbrev mX9_in : jm_Y := (yX9_in, cX9_in, 3, (some .boolean), 0)
abbrev mX9_ones : jm_Y := (yX9_ones, cX9_ones, 3, (some .int), 0)
abbrev mX9_type : jm_Y := (yX9_type, cX9_type, 2, (some .int), 1)
abbrev mX9_clear : jm_Y := (yX9_clear, cX9_clear, 2, (some .int), 0)
abbrev mX9_letterAt : jm_Y := (yX9_letterAt, cX9_letterAt, 2, (some .int), 0)
abbrev mX9_isLetter : jm_Y := (yX9_isLetter, cX9_isLetter, 1, (some .boolean), 0)
abbrev mX9_advances : jm_Y := (yX9_advances, cX9_advances, 2, none, 1)
abbrev mX9_isWell : jm_Y := (yX9_isWell, cX9_isWell, 1, (some .boolean), 0)
abbrev mX9_takes : jm_Y := (yX9_takes, cX9_takes, 3, (some .int), 2)
abbrev mX9_number : jm_Y := (yX9_number, cX9_number, 3, (some .int), 3)
abbrev mX9_mayBegin : jm_Y := (yX9_mayBegin, cX9_mayBegin, 2, (some .boolean), 0)
abbrev mX9_readsItem : jm_Y := (yX9_readsItem, cX9_readsItem, 5, none, 4)
abbrev mX9_score : jm_Y := (yX9_score, cX9_score, 3, (some .int), 5)
abbrev mX9_settles : jm_Y := (yX9_settles, cX9_settles, 2, none, 0)
abbrev mX9_isPart : jm_Y := (yX9_isPart, cX9_isPart, 2, (some .boolean), 1)
abbrev mX9_isPlayer : jm_Y := (yX9_isPlayer, cX9_isPlayer, 2, (some .boolean), 1)
abbrev mX9_allBars : jm_Y := (yX9_allBars, cX9_allBars, 1, (some .int), 0)
abbrev mX9_reckons : jm_Y := (yX9_reckons, cX9_reckons, 4, none, 1)
abbrev mX9_restsIn : jm_Y := (yX9_restsIn, cX9_restsIn, 4, (some .int), 0)
abbrev mX9_payOf : jm_Y := (yX9_payOf, cX9_payOf, 5, (some .int), 1)
abbrev mX9_payOfAll : jm_Y := (yX9_payOfAll, cX9_payOfAll, 4, (some .int), 2)
abbrev mX9_isOut : jm_Y := (yX9_isOut, cX9_isOut, 5, (some .boolean), 0)
abbrev mX9_part : jm_Y := (yX9_part, cX9_part, 3, (some .int), 2)
abbrev mX9_partsOf : jm_Y := (yX9_partsOf, cX9_partsOf, 4, (some .int), 0)
abbrev mX9_player : jm_Y := (yX9_player, cX9_player, 3, (some .int), 2)
abbrev mX9_coins : jm_Y := (yX9_coins, cX9_coins, 3, (some .int), 2)
abbrev mX9_now : jm_Y := (yX9_now, cX9_now, 5, (some .int), 2)
abbrev mX9_keepsAct : jm_Y := (yX9_keepsAct, cX9_keepsAct, 2, none, 0)
abbrev mX9_gives : jm_Y := (yX9_gives, cX9_gives, 4, (some .int), 2)
abbrev mX9_sleeps : jm_Y := (yX9_sleeps, cX9_sleeps, 5, (some .int), 2)
abbrev mX9_goes : jm_Y := (yX9_goes, cX9_goes, 6, (some .int), 2)
abbrev mX9_evening : jm_Y := (yX9_evening, cX9_evening, 1, (some .int), 3)
abbrev mX9_undo : jm_Y := (yX9_undo, cX9_undo, 2, (some .int), 0)
abbrev mX9_asNow : jm_Y := (yX9_asNow, cX9_asNow, 2, none, 0)
abbrev mX9_leastBy : jm_Y := (yX9_leastBy, cX9_leastBy, 6, (some .int), 2)
abbrev mX9_share : jm_Y := (yX9_share, cX9_share, 5, (some .int), 3)
abbrev mX9_costsOf : jm_Y := (yX9_costsOf, cX9_costsOf, 4, (some .int), 2)
abbrev mX9_costs : jm_Y := (yX9_costs, cX9_costs, 2, (some .int), 3)
abbrev mX9_exchange : jm_Y := (yX9_exchange, cX9_exchange, 6, (some .int), 3)
abbrev mX9_leftOut : jm_Y := (yX9_leftOut, cX9_leftOut, 7, (some .int), 2)
abbrev mX9_nobodys : jm_Y := (yX9_nobodys, cX9_nobodys, 3, (some .int), 1)
abbrev mX9_bars : jm_Y := (yX9_bars, cX9_bars, 6, (some .int), 2)
abbrev mX9_heardBy : jm_Y := (yX9_heardBy, cX9_heardBy, 6, (some .int), 0)
abbrev mX9_heard : jm_Y := (yX9_heard, cX9_heard, 2, (some .int), 1)
abbrev mX9_rests : jm_Y := (yX9_rests, cX9_rests, 2, (some .int), 2)
abbrev mX9_first : jm_Y := (yX9_first, cX9_first, 5, (some .int), 2)
abbrev mX9_noted : jm_Y := (yX9_noted, cX9_noted, 3, (some .int), 1)
abbrev mX9_forget : jm_Y := (yX9_forget, cX9_forget, 2, (some .int), 0)
abbrev mX9_isAsNoted : jm_Y := (yX9_isAsNoted, cX9_isAsNoted, 4, (some .boolean), 1)
abbrev mX9_who : jm_Y := (yX9_who, cX9_who, 3, (some .int), 2)
abbrev mX9_poorest : jm_Y := (yX9_poorest, cX9_poorest, 4, (some .int), 0)
abbrev mX9_broke : jm_Y := (yX9_broke, cX9_broke, 2, (some .int), 3)
abbrev mX9_rich : jm_Y := (yX9_rich, cX9_rich, 3, (some .int), 3)
abbrev mX9_gcd : jm_Y := (yX9_gcd, cX9_gcd, 5, (some .int), 0)
abbrev mX9_odds : jm_Y := (yX9_odds, cX9_odds, 11, (some .int), 2)
abbrev mX9_rate : jm_Y := (yX9_rate, cX9_rate, 4, (some .int), 3)
abbrev mX9_keep : jm_Y := (yX9_keep, cX9_keep, 3, (some .int), 1)
abbrev mX9_back : jm_Y := (yX9_back, cX9_back, 3, (some .int), 1)
abbrev mX9_count : jm_Y := (yX9_count, cX9_count, 2, (some .int), 1)
abbrev mX9_trace : jm_Y := (yX9_trace, cX9_trace, 1, (some .long), 0)
abbrev mJ6_bitCount_0f7a4 : jm_Y := (yJ6_bitCount_0f7a4, cJ6_bitCount_0f7a4, 1, (some .int), 0)
abbrev mJ7_fill_53178 : jm_Y := (yJ7_fill_53178, cJ7_fill_53178, 4, none, 0)
theorem jf_X0_weigh_X5_gain : jm_cf mX0_weigh mX5_gain 1 := ⟨jw_455, jw_6, ⟨by decide, by decide, by decide +kernel⟩, by decide, by decide⟩
theorem jf_X0_weigh_X5_restersIn : jm_cf mX0_weigh mX5_restersIn 1 := ⟨jw_502, jw_6, ⟨by decide, by decide, by decide +kernel⟩, by decide, by decide⟩
theorem jf_X0_weigh_X5_cutFor : jm_cf mX0_weigh mX5_cutFor 1 := ⟨jw_469, jw_6, ⟨by decide, by decide, by decide +kernel⟩, by decide, by decide⟩
theorem jf_X0_fewest_J6_bitCount_0f7a4 : jm_cf mX0_fewest mJ6_bitCount_0f7a4 1 := ⟨jw_462, jw_14, ⟨by decide, by decide, by decide +kernel⟩, by decide, by decide⟩
theorem jf_X0_fewest_X0_mostOf : jm_cf mX0_fewest mX0_mostOf 2 := ⟨jw_615, jw_8, ⟨by decide, by decide, by decide +kernel⟩, by decide, by decide⟩
theorem jf_X0_leastOf_X0_mostOf : jm_cf mX0_leastOf mX0_mostOf 2 := ⟨jw_615, jw_8, ⟨by decide, by decide, by decide +kernel⟩, by decide, by decide⟩
theorem jf_X0_mostOf_X0_dearestOf : jm_cf mX0_mostOf mX0_dearestOf 1 := ⟨jw_619, jw_8, ⟨by decide, by decide, by decide +kernel⟩, by decide, by decide⟩
theorem jf_X1_begin_X5_seat : jm_cf mX1_begin mX5_seat 2 := ⟨jw_433, jw_6, ⟨by decide, by decide, by decide +kernel⟩, by decide, by decide⟩
theorem jf_X1_begin_X1_noteGains : jm_cf mX1_begin mX1_noteGains 1 := ⟨jw_687, jw_9, ⟨by decide, by decide, by decide +kernel⟩, by decide, by decide⟩
theorem jf_X1_noteGains_X5_gain : jm_cf mX1_noteGains mX5_gain 1 := ⟨jw_455, jw_6, ⟨by decide, by decide, by decide +kernel⟩, by decide, by decide⟩
theorem jf_X1_pass_X8_savedAfter : jm_cf mX1_pass mX8_savedAfter 2 := ⟨jw_532, jw_1, ⟨by decide, by decide, by decide +kernel⟩, by decide, by decide⟩
theorem jf_X2_remember_X6_become : jm_cf mX2_remember mX6_become 1 := ⟨jw_514, jw_4, ⟨by decide, by decide, by decide +kernel⟩, by decide, by decide⟩
theorem jf_X2_takeBack_X6_become : jm_cf mX2_takeBack mX6_become 1 := ⟨jw_514, jw_4, ⟨by decide, by decide, by decide +kernel⟩, by decide, by decide⟩
theorem jf_X3_append_X3_hasRoom : jm_cf mX3_append mX3_hasRoom 0 := ⟨jw_316, jw_2, ⟨by decide, by decide, by decide +kernel⟩, by decide, by decide⟩
theorem jf_X3_readInto_X7_begin : jm_cf mX3_readInto mX7_begin 0 := ⟨jw_341, jw_3, ⟨by decide, by decide, by decide +kernel⟩, by decide, by decide⟩
theorem jf_X3_readInto_X3_next : jm_cf mX3_readInto mX3_next 0 := ⟨jw_345, jw_2, ⟨by decide, by decide, by decide +kernel⟩, by decide, by decide⟩
theorem jf_X3_readInto_X3_takesItem : jm_cf mX3_readInto mX3_takesItem 2 := ⟨jw_355, jw_2, ⟨by decide, by decide, by decide +kernel⟩, by decide, by decide⟩
theorem jf_X3_takesItem_X3_takesBars : jm_cf mX3_takesItem mX3_takesBars 1 := ⟨jw_359, jw_2, ⟨by decide, by decide, by decide +kernel⟩, by decide, by decide⟩
theorem jf_X3_takesItem_X3_takesEnd : jm_cf mX3_takesItem mX3_takesEnd 0 := ⟨jw_367, jw_2, ⟨by decide, by decide, by decide +kernel⟩, by decide, by decide⟩
theorem jf_X3_takesItem_X3_takesPart : jm_cf mX3_takesItem mX3_takesPart 1 := ⟨jw_371, jw_2, ⟨by decide, by decide, by decide +kernel⟩, by decide, by decide⟩
theorem jf_X3_takesItem_X3_takesPlayer : jm_cf mX3_takesItem mX3_takesPlayer 1 := ⟨jw_375, jw_2, ⟨by decide, by decide, by decide +kernel⟩, by decide, by decide⟩
theorem jf_X3_takesItem_X3_takesPurse : jm_cf mX3_takesItem mX3_takesPurse 1 := ⟨jw_379, jw_2, ⟨by decide, by decide, by decide +kernel⟩, by decide, by decide⟩
theorem jf_X3_takesItem_X3_takesFine : jm_cf mX3_takesItem mX3_takesFine 1 := ⟨jw_383, jw_2, ⟨by decide, by decide, by decide +kernel⟩, by decide, by decide⟩
theorem jf_X3_takesBars_X3_takesNumber : jm_cf mX3_takesBars mX3_takesNumber 2 := ⟨jw_363, jw_2, ⟨by decide, by decide, by decide +kernel⟩, by decide, by decide⟩
theorem jf_X3_takesPart_X3_takesNumber : jm_cf mX3_takesPart mX3_takesNumber 2 := ⟨jw_363, jw_2, ⟨by decide, by decide, by decide +kernel⟩, by decide, by decide⟩
theorem jf_X3_takesPart_X3_next : jm_cf mX3_takesPart mX3_next 0 := ⟨jw_345, jw_2, ⟨by decide, by decide, by decide +kernel⟩, by decide, by decide⟩
theorem jf_X3_takesPlayer_X3_takesNumber : jm_cf mX3_takesPlayer mX3_takesNumber 2 := ⟨jw_363, jw_2, ⟨by decide, by decide, by decide +kernel⟩, by decide, by decide⟩
theorem jf_X3_takesPurse_X3_takesNumber : jm_cf mX3_takesPurse mX3_takesNumber 2 := ⟨jw_363, jw_2, ⟨by decide, by decide, by decide +kernel⟩, by decide, by decide⟩
theorem jf_X3_takesFine_X3_takesNumber : jm_cf mX3_takesFine mX3_takesNumber 2 := ⟨jw_363, jw_2, ⟨by decide, by decide, by decide +kernel⟩, by decide, by decide⟩
theorem jf_X3_takesEnd_X3_next : jm_cf mX3_takesEnd mX3_next 0 := ⟨jw_345, jw_2, ⟨by decide, by decide, by decide +kernel⟩, by decide, by decide⟩
theorem jf_X3_takesNumber_X3_next : jm_cf mX3_takesNumber mX3_next 0 := ⟨jw_345, jw_2, ⟨by decide, by decide, by decide +kernel⟩, by decide, by decide⟩
theorem jf_X3_next_X3_isDigit : jm_cf mX3_next mX3_isDigit 1 := ⟨jw_348, jw_2, ⟨by decide, by decide, by decide +kernel⟩, by decide, by decide⟩
theorem jf_X4_search_J7_fill_53178 : jm_cf mX4_search mJ7_fill_53178 2 := ⟨jw_397, jw_13, ⟨by decide, by decide, by decide +kernel⟩, by decide, by decide⟩
theorem jf_X4_search_X4_howManyWays : jm_cf mX4_search mX4_howManyWays 0 := ⟨jw_558, jw_7, ⟨by decide, by decide, by decide +kernel⟩, by decide, by decide⟩
theorem jf_X4_search_X4_poorestOfWay : jm_cf mX4_search mX4_poorestOfWay 0 := ⟨jw_562, jw_7, ⟨by decide, by decide, by decide +kernel⟩, by decide, by decide⟩
theorem jf_X4_search_X4_turnToNextWay : jm_cf mX4_search mX4_turnToNextWay 0 := ⟨jw_574, jw_7, ⟨by decide, by decide, by decide +kernel⟩, by decide, by decide⟩
theorem jf_X4_poorestOfWay_X5_handOut : jm_cf mX4_poorestOfWay mX5_handOut 1 := ⟨jw_437, jw_6, ⟨by decide, by decide, by decide +kernel⟩, by decide, by decide⟩
theorem jf_X4_poorestOfWay_X5_letSleep : jm_cf mX4_poorestOfWay mX5_letSleep 1 := ⟨jw_443, jw_6, ⟨by decide, by decide, by decide +kernel⟩, by decide, by decide⟩
theorem jf_X4_poorestOfWay_X5_outOfBreath : jm_cf mX4_poorestOfWay mX5_outOfBreath 1 := ⟨jw_473, jw_6, ⟨by decide, by decide, by decide +kernel⟩, by decide, by decide⟩
theorem jf_X4_poorestOfWay_X5_pay : jm_cf mX4_poorestOfWay mX5_pay 1 := ⟨jw_459, jw_6, ⟨by decide, by decide, by decide +kernel⟩, by decide, by decide⟩
theorem jf_X5_seat_X5_handOut : jm_cf mX5_seat mX5_handOut 1 := ⟨jw_437, jw_6, ⟨by decide, by decide, by decide +kernel⟩, by decide, by decide⟩
theorem jf_X5_seat_X5_letSleep : jm_cf mX5_seat mX5_letSleep 1 := ⟨jw_443, jw_6, ⟨by decide, by decide, by decide +kernel⟩, by decide, by decide⟩
theorem jf_X5_handOut_J7_fill_53178 : jm_cf mX5_handOut mJ7_fill_53178 2 := ⟨jw_397, jw_13, ⟨by decide, by decide, by decide +kernel⟩, by decide, by decide⟩
theorem jf_X5_handOut_X7_hasPlayer : jm_cf mX5_handOut mX7_hasPlayer 1 := ⟨jw_425, jw_3, ⟨by decide, by decide, by decide +kernel⟩, by decide, by decide⟩
theorem jf_X5_letSleep_J7_fill_53178 : jm_cf mX5_letSleep mJ7_fill_53178 2 := ⟨jw_397, jw_13, ⟨by decide, by decide, by decide +kernel⟩, by decide, by decide⟩
theorem jf_X5_letSleep_X7_allBars : jm_cf mX5_letSleep mX7_allBars 0 := ⟨jw_447, jw_3, ⟨by decide, by decide, by decide +kernel⟩, by decide, by decide⟩
theorem jf_X5_pay_J6_bitCount_0f7a4 : jm_cf mX5_pay mJ6_bitCount_0f7a4 1 := ⟨jw_462, jw_14, ⟨by decide, by decide, by decide +kernel⟩, by decide, by decide⟩
theorem jf_X5_pay_X5_cutFor : jm_cf mX5_pay mX5_cutFor 1 := ⟨jw_469, jw_6, ⟨by decide, by decide, by decide +kernel⟩, by decide, by decide⟩
theorem jf_X5_payOfAll_X5_pay : jm_cf mX5_payOfAll mX5_pay 1 := ⟨jw_459, jw_6, ⟨by decide, by decide, by decide +kernel⟩, by decide, by decide⟩
theorem jf_X5_gain_X5_pay : jm_cf mX5_gain mX5_pay 1 := ⟨jw_459, jw_6, ⟨by decide, by decide, by decide +kernel⟩, by decide, by decide⟩
theorem jf_X5_lives_X5_gain : jm_cf mX5_lives mX5_gain 1 := ⟨jw_455, jw_6, ⟨by decide, by decide, by decide +kernel⟩, by decide, by decide⟩
theorem jf_X5_outOfBreath_X8_longestRun : jm_cf mX5_outOfBreath mX8_longestRun 1 := ⟨jw_476, jw_1, ⟨by decide, by decide, by decide +kernel⟩, by decide, by decide⟩
theorem jf_X6_begin_J7_fill_53178 : jm_cf mX6_begin mJ7_fill_53178 2 := ⟨jw_397, jw_13, ⟨by decide, by decide, by decide +kernel⟩, by decide, by decide⟩
theorem jf_X8_type_X3_hasRoom : jm_cf mX8_type mX3_hasRoom 0 := ⟨jw_316, jw_2, ⟨by decide, by decide, by decide +kernel⟩, by decide, by decide⟩
theorem jf_X8_type_X3_append : jm_cf mX8_type mX3_append 1 := ⟨jw_320, jw_2, ⟨by decide, by decide, by decide +kernel⟩, by decide, by decide⟩
theorem jf_X8_clear_X3_empty : jm_cf mX8_clear mX3_empty 0 := ⟨jw_329, jw_2, ⟨by decide, by decide, by decide +kernel⟩, by decide, by decide⟩
theorem jf_X8_score_X3_readInto : jm_cf mX8_score mX3_readInto 1 := ⟨jw_337, jw_2, ⟨by decide, by decide, by decide +kernel⟩, by decide, by decide⟩
theorem jf_X8_score_X3_empty : jm_cf mX8_score mX3_empty 0 := ⟨jw_329, jw_2, ⟨by decide, by decide, by decide +kernel⟩, by decide, by decide⟩
theorem jf_X8_score_X7_become : jm_cf mX8_score mX7_become 1 := ⟨jw_387, jw_3, ⟨by decide, by decide, by decide +kernel⟩, by decide, by decide⟩
theorem jf_X8_score_X6_begin : jm_cf mX8_score mX6_begin 0 := ⟨jw_394, jw_4, ⟨by decide, by decide, by decide +kernel⟩, by decide, by decide⟩
theorem jf_X8_score_X2_lose : jm_cf mX8_score mX2_lose 0 := ⟨jw_401, jw_5, ⟨by decide, by decide, by decide +kernel⟩, by decide, by decide⟩
theorem jf_X8_score_X4_lose : jm_cf mX8_score mX4_lose 0 := ⟨jw_405, jw_7, ⟨by decide, by decide, by decide +kernel⟩, by decide, by decide⟩
theorem jf_X8_part_X7_hasPart : jm_cf mX8_part mX7_hasPart 1 := ⟨jw_413, jw_3, ⟨by decide, by decide, by decide +kernel⟩, by decide, by decide⟩
theorem jf_X8_part_X8_ownerOrNone : jm_cf mX8_part mX8_ownerOrNone 1 := ⟨jw_417, jw_1, ⟨by decide, by decide, by decide +kernel⟩, by decide, by decide⟩
theorem jf_X8_player_X7_hasPlayer : jm_cf mX8_player mX7_hasPlayer 1 := ⟨jw_425, jw_3, ⟨by decide, by decide, by decide +kernel⟩, by decide, by decide⟩
theorem jf_X8_player_X8_seatAll : jm_cf mX8_player mX8_seatAll 0 := ⟨jw_429, jw_1, ⟨by decide, by decide, by decide +kernel⟩, by decide, by decide⟩
theorem jf_X8_player_X5_lives : jm_cf mX8_player mX5_lives 1 := ⟨jw_451, jw_6, ⟨by decide, by decide, by decide +kernel⟩, by decide, by decide⟩
theorem jf_X8_player_X5_outOfBreath : jm_cf mX8_player mX5_outOfBreath 1 := ⟨jw_473, jw_6, ⟨by decide, by decide, by decide +kernel⟩, by decide, by decide⟩
theorem jf_X8_player_X8_partsOf : jm_cf mX8_player mX8_partsOf 1 := ⟨jw_480, jw_1, ⟨by decide, by decide, by decide +kernel⟩, by decide, by decide⟩
theorem jf_X8_coins_X7_hasPlayer : jm_cf mX8_coins mX7_hasPlayer 1 := ⟨jw_425, jw_3, ⟨by decide, by decide, by decide +kernel⟩, by decide, by decide⟩
theorem jf_X8_coins_X8_payNow : jm_cf mX8_coins mX8_payNow 1 := ⟨jw_489, jw_1, ⟨by decide, by decide, by decide +kernel⟩, by decide, by decide⟩
theorem jf_X8_now_X8_partsOf : jm_cf mX8_now mX8_partsOf 1 := ⟨jw_480, jw_1, ⟨by decide, by decide, by decide +kernel⟩, by decide, by decide⟩
theorem jf_X8_now_X8_restsOfAllBars : jm_cf mX8_now mX8_restsOfAllBars 0 := ⟨jw_498, jw_1, ⟨by decide, by decide, by decide +kernel⟩, by decide, by decide⟩
theorem jf_X8_gives_X7_hasPart : jm_cf mX8_gives mX7_hasPart 1 := ⟨jw_413, jw_3, ⟨by decide, by decide, by decide +kernel⟩, by decide, by decide⟩
theorem jf_X8_gives_X7_hasPlayer : jm_cf mX8_gives mX7_hasPlayer 1 := ⟨jw_425, jw_3, ⟨by decide, by decide, by decide +kernel⟩, by decide, by decide⟩
theorem jf_X8_gives_X8_ownerOrNone : jm_cf mX8_gives mX8_ownerOrNone 1 := ⟨jw_417, jw_1, ⟨by decide, by decide, by decide +kernel⟩, by decide, by decide⟩
theorem jf_X8_gives_X2_remember : jm_cf mX8_gives mX2_remember 1 := ⟨jw_510, jw_5, ⟨by decide, by decide, by decide +kernel⟩, by decide, by decide⟩
theorem jf_X8_sleeps_X7_hasPlayer : jm_cf mX8_sleeps mX7_hasPlayer 1 := ⟨jw_425, jw_3, ⟨by decide, by decide, by decide +kernel⟩, by decide, by decide⟩
theorem jf_X8_sleeps_X7_hasBar : jm_cf mX8_sleeps mX7_hasBar 1 := ⟨jw_524, jw_3, ⟨by decide, by decide, by decide +kernel⟩, by decide, by decide⟩
theorem jf_X8_sleeps_X2_remember : jm_cf mX8_sleeps mX2_remember 1 := ⟨jw_510, jw_5, ⟨by decide, by decide, by decide +kernel⟩, by decide, by decide⟩
theorem jf_X8_evening_X2_remember : jm_cf mX8_evening mX2_remember 1 := ⟨jw_510, jw_5, ⟨by decide, by decide, by decide +kernel⟩, by decide, by decide⟩
theorem jf_X8_evening_X8_seatAll : jm_cf mX8_evening mX8_seatAll 0 := ⟨jw_429, jw_1, ⟨by decide, by decide, by decide +kernel⟩, by decide, by decide⟩
theorem jf_X8_evening_J7_fill_53178 : jm_cf mX8_evening mJ7_fill_53178 2 := ⟨jw_397, jw_13, ⟨by decide, by decide, by decide +kernel⟩, by decide, by decide⟩
theorem jf_X8_evening_X5_lives : jm_cf mX8_evening mX5_lives 1 := ⟨jw_451, jw_6, ⟨by decide, by decide, by decide +kernel⟩, by decide, by decide⟩
theorem jf_X8_evening_X5_gain : jm_cf mX8_evening mX5_gain 1 := ⟨jw_455, jw_6, ⟨by decide, by decide, by decide +kernel⟩, by decide, by decide⟩
theorem jf_X8_evening_X8_savedAfter : jm_cf mX8_evening mX8_savedAfter 2 := ⟨jw_532, jw_1, ⟨by decide, by decide, by decide +kernel⟩, by decide, by decide⟩
theorem jf_X8_undo_X2_takeBack : jm_cf mX8_undo mX2_takeBack 1 := ⟨jw_545, jw_5, ⟨by decide, by decide, by decide +kernel⟩, by decide, by decide⟩
theorem jf_X8_share_X7_hasPart : jm_cf mX8_share mX7_hasPart 1 := ⟨jw_413, jw_3, ⟨by decide, by decide, by decide +kernel⟩, by decide, by decide⟩
theorem jf_X8_share_X4_search : jm_cf mX8_share mX4_search 0 := ⟨jw_553, jw_7, ⟨by decide, by decide, by decide +kernel⟩, by decide, by decide⟩
theorem jf_X8_costs_X7_hasPart : jm_cf mX8_costs mX7_hasPart 1 := ⟨jw_413, jw_3, ⟨by decide, by decide, by decide +kernel⟩, by decide, by decide⟩
theorem jf_X8_costs_X8_costOf : jm_cf mX8_costs mX8_costOf 1 := ⟨jw_582, jw_1, ⟨by decide, by decide, by decide +kernel⟩, by decide, by decide⟩
theorem jf_X8_exchange_X8_seatAll : jm_cf mX8_exchange mX8_seatAll 0 := ⟨jw_429, jw_1, ⟨by decide, by decide, by decide +kernel⟩, by decide, by decide⟩
theorem jf_X8_exchange_X5_payOfAll : jm_cf mX8_exchange mX5_payOfAll 0 := ⟨jw_591, jw_6, ⟨by decide, by decide, by decide +kernel⟩, by decide, by decide⟩
theorem jf_X8_exchange_X8_payIfExchanged : jm_cf mX8_exchange mX8_payIfExchanged 2 := ⟨jw_595, jw_1, ⟨by decide, by decide, by decide +kernel⟩, by decide, by decide⟩
theorem jf_X8_leftOut_X7_hasPlayer : jm_cf mX8_leftOut mX7_hasPlayer 1 := ⟨jw_425, jw_3, ⟨by decide, by decide, by decide +kernel⟩, by decide, by decide⟩
theorem jf_X8_leftOut_X8_seatAll : jm_cf mX8_leftOut mX8_seatAll 0 := ⟨jw_429, jw_1, ⟨by decide, by decide, by decide +kernel⟩, by decide, by decide⟩
theorem jf_X8_leftOut_X0_weigh : jm_cf mX8_leftOut mX0_weigh 1 := ⟨jw_603, jw_8, ⟨by decide, by decide, by decide +kernel⟩, by decide, by decide⟩
theorem jf_X8_leftOut_X0_fewest : jm_cf mX8_leftOut mX0_fewest 0 := ⟨jw_610, jw_8, ⟨by decide, by decide, by decide +kernel⟩, by decide, by decide⟩
theorem jf_X8_leftOut_X0_leastOf : jm_cf mX8_leftOut mX0_leastOf 1 := ⟨jw_623, jw_8, ⟨by decide, by decide, by decide +kernel⟩, by decide, by decide⟩
theorem jf_X8_bars_X8_seatAll : jm_cf mX8_bars mX8_seatAll 0 := ⟨jw_429, jw_1, ⟨by decide, by decide, by decide +kernel⟩, by decide, by decide⟩
theorem jf_X8_bars_X5_nobodys : jm_cf mX8_bars mX5_nobodys 0 := ⟨jw_631, jw_6, ⟨by decide, by decide, by decide +kernel⟩, by decide, by decide⟩
theorem jf_X8_bars_X5_tutti : jm_cf mX8_bars mX5_tutti 0 := ⟨jw_635, jw_6, ⟨by decide, by decide, by decide +kernel⟩, by decide, by decide⟩
theorem jf_X8_bars_X8_longestRun : jm_cf mX8_bars mX8_longestRun 1 := ⟨jw_476, jw_1, ⟨by decide, by decide, by decide +kernel⟩, by decide, by decide⟩
theorem jf_X8_heard_X7_hasBar : jm_cf mX8_heard mX7_hasBar 1 := ⟨jw_524, jw_3, ⟨by decide, by decide, by decide +kernel⟩, by decide, by decide⟩
theorem jf_X8_heard_X8_sleepersIn : jm_cf mX8_heard mX8_sleepersIn 1 := ⟨jw_644, jw_1, ⟨by decide, by decide, by decide +kernel⟩, by decide, by decide⟩
theorem jf_X8_heard_X8_loudness : jm_cf mX8_heard mX8_loudness 2 := ⟨jw_648, jw_1, ⟨by decide, by decide, by decide +kernel⟩, by decide, by decide⟩
theorem jf_X8_rests_X7_hasBar : jm_cf mX8_rests mX7_hasBar 1 := ⟨jw_524, jw_3, ⟨by decide, by decide, by decide +kernel⟩, by decide, by decide⟩
theorem jf_X8_rests_X8_seatAll : jm_cf mX8_rests mX8_seatAll 0 := ⟨jw_429, jw_1, ⟨by decide, by decide, by decide +kernel⟩, by decide, by decide⟩
theorem jf_X8_rests_X5_restersIn : jm_cf mX8_rests mX5_restersIn 1 := ⟨jw_502, jw_6, ⟨by decide, by decide, by decide +kernel⟩, by decide, by decide⟩
theorem jf_X8_first_X8_seatAll : jm_cf mX8_first mX8_seatAll 0 := ⟨jw_429, jw_1, ⟨by decide, by decide, by decide +kernel⟩, by decide, by decide⟩
theorem jf_X8_first_J6_bitCount_0f7a4 : jm_cf mX8_first mJ6_bitCount_0f7a4 1 := ⟨jw_462, jw_14, ⟨by decide, by decide, by decide +kernel⟩, by decide, by decide⟩
theorem jf_X8_noted_X7_hasBar : jm_cf mX8_noted mX7_hasBar 1 := ⟨jw_524, jw_3, ⟨by decide, by decide, by decide +kernel⟩, by decide, by decide⟩
theorem jf_X8_who_X8_agreesWithNoted : jm_cf mX8_who mX8_agreesWithNoted 1 := ⟨jw_673, jw_1, ⟨by decide, by decide, by decide +kernel⟩, by decide, by decide⟩
theorem jf_X8_broke_X1_begin : jm_cf mX8_broke mX1_begin 1 := ⟨jw_681, jw_9, ⟨by decide, by decide, by decide +kernel⟩, by decide, by decide⟩
theorem jf_X8_broke_X1_somebodyOwes : jm_cf mX8_broke mX1_somebodyOwes 0 := ⟨jw_693, jw_9, ⟨by decide, by decide, by decide +kernel⟩, by decide, by decide⟩
theorem jf_X8_broke_X1_pass : jm_cf mX8_broke mX1_pass 1 := ⟨jw_697, jw_9, ⟨by decide, by decide, by decide +kernel⟩, by decide, by decide⟩
theorem jf_X8_rich_X1_begin : jm_cf mX8_rich mX1_begin 1 := ⟨jw_681, jw_9, ⟨by decide, by decide, by decide +kernel⟩, by decide, by decide⟩
theorem jf_X8_rich_X1_allHave : jm_cf mX8_rich mX1_allHave 1 := ⟨jw_706, jw_9, ⟨by decide, by decide, by decide +kernel⟩, by decide, by decide⟩
theorem jf_X8_rich_X1_pass : jm_cf mX8_rich mX1_pass 1 := ⟨jw_697, jw_9, ⟨by decide, by decide, by decide +kernel⟩, by decide, by decide⟩
theorem jf_X8_odds_X7_hasBar : jm_cf mX8_odds mX7_hasBar 1 := ⟨jw_524, jw_3, ⟨by decide, by decide, by decide +kernel⟩, by decide, by decide⟩
theorem jf_X8_odds_X8_greatestDivisor : jm_cf mX8_odds mX8_greatestDivisor 2 := ⟨jw_717, jw_1, ⟨by decide, by decide, by decide +kernel⟩, by decide, by decide⟩
theorem jf_X8_odds_X8_weightOf : jm_cf mX8_odds mX8_weightOf 2 := ⟨jw_714, jw_1, ⟨by decide, by decide, by decide +kernel⟩, by decide, by decide⟩
theorem jf_X8_odds_X8_loudness : jm_cf mX8_odds mX8_loudness 2 := ⟨jw_648, jw_1, ⟨by decide, by decide, by decide +kernel⟩, by decide, by decide⟩
theorem jf_X8_rate_X7_hasPart : jm_cf mX8_rate mX7_hasPart 1 := ⟨jw_413, jw_3, ⟨by decide, by decide, by decide +kernel⟩, by decide, by decide⟩
theorem jf_X8_rate_X8_asPart : jm_cf mX8_rate mX8_asPart 1 := ⟨jw_725, jw_1, ⟨by decide, by decide, by decide +kernel⟩, by decide, by decide⟩
theorem jf_X8_rate_X8_asOboe : jm_cf mX8_rate mX8_asOboe 1 := ⟨jw_729, jw_1, ⟨by decide, by decide, by decide +kernel⟩, by decide, by decide⟩
theorem jf_X8_rate_X8_asHorn : jm_cf mX8_rate mX8_asHorn 1 := ⟨jw_734, jw_1, ⟨by decide, by decide, by decide +kernel⟩, by decide, by decide⟩
theorem jf_X8_rate_X8_asSolo : jm_cf mX8_rate mX8_asSolo 1 := ⟨jw_739, jw_1, ⟨by decide, by decide, by decide +kernel⟩, by decide, by decide⟩
theorem jf_X8_rate_X8_asDrum : jm_cf mX8_rate mX8_asDrum 1 := ⟨jw_744, jw_1, ⟨by decide, by decide, by decide +kernel⟩, by decide, by decide⟩
theorem jf_X8_rate_X8_asFugue : jm_cf mX8_rate mX8_asFugue 1 := ⟨jw_749, jw_1, ⟨by decide, by decide, by decide +kernel⟩, by decide, by decide⟩
theorem jf_X8_keep_X6_become : jm_cf mX8_keep mX6_become 1 := ⟨jw_514, jw_4, ⟨by decide, by decide, by decide +kernel⟩, by decide, by decide⟩
theorem jf_X8_back_X6_become : jm_cf mX8_back mX6_become 1 := ⟨jw_514, jw_4, ⟨by decide, by decide, by decide +kernel⟩, by decide, by decide⟩
theorem jf_X8_back_X2_lose : jm_cf mX8_back mX2_lose 0 := ⟨jw_401, jw_5, ⟨by decide, by decide, by decide +kernel⟩, by decide, by decide⟩
theorem jf_X8_seatAll_X5_seat : jm_cf mX8_seatAll mX5_seat 2 := ⟨jw_433, jw_6, ⟨by decide, by decide, by decide +kernel⟩, by decide, by decide⟩
theorem jf_X8_payNow_X8_seatAll : jm_cf mX8_payNow mX8_seatAll 0 := ⟨jw_429, jw_1, ⟨by decide, by decide, by decide +kernel⟩, by decide, by decide⟩
theorem jf_X8_payNow_X5_pay : jm_cf mX8_payNow mX5_pay 1 := ⟨jw_459, jw_6, ⟨by decide, by decide, by decide +kernel⟩, by decide, by decide⟩
theorem jf_X8_restsOfAllBars_X8_seatAll : jm_cf mX8_restsOfAllBars mX8_seatAll 0 := ⟨jw_429, jw_1, ⟨by decide, by decide, by decide +kernel⟩, by decide, by decide⟩
theorem jf_X8_restsOfAllBars_X5_restersIn : jm_cf mX8_restsOfAllBars mX5_restersIn 1 := ⟨jw_502, jw_6, ⟨by decide, by decide, by decide +kernel⟩, by decide, by decide⟩
theorem jf_X8_costOf_X7_hasPlayer : jm_cf mX8_costOf mX7_hasPlayer 1 := ⟨jw_425, jw_3, ⟨by decide, by decide, by decide +kernel⟩, by decide, by decide⟩
theorem jf_X8_costOf_X5_seat : jm_cf mX8_costOf mX5_seat 2 := ⟨jw_433, jw_6, ⟨by decide, by decide, by decide +kernel⟩, by decide, by decide⟩
theorem jf_X8_costOf_X5_pay : jm_cf mX8_costOf mX5_pay 1 := ⟨jw_459, jw_6, ⟨by decide, by decide, by decide +kernel⟩, by decide, by decide⟩
theorem jf_X8_payIfExchanged_X5_seat : jm_cf mX8_payIfExchanged mX5_seat 2 := ⟨jw_433, jw_6, ⟨by decide, by decide, by decide +kernel⟩, by decide, by decide⟩
theorem jf_X8_payIfExchanged_X5_payOfAll : jm_cf mX8_payIfExchanged mX5_payOfAll 0 := ⟨jw_591, jw_6, ⟨by decide, by decide, by decide +kernel⟩, by decide, by decide⟩
theorem jf_X8_loudness_X7_hasPlayer : jm_cf mX8_loudness mX7_hasPlayer 1 := ⟨jw_425, jw_3, ⟨by decide, by decide, by decide +kernel⟩, by decide, by decide⟩
theorem jf_X8_agreesWithNoted_X8_loudness : jm_cf mX8_agreesWithNoted mX8_loudness 2 := ⟨jw_648, jw_1, ⟨by decide, by decide, by decide +kernel⟩, by decide, by decide⟩
theorem jf_X8_asPart_J6_bitCount_0f7a4 : jm_cf mX8_asPart mJ6_bitCount_0f7a4 1 := ⟨jw_462, jw_14, ⟨by decide, by decide, by decide +kernel⟩, by decide, by decide⟩
theorem jf_X8_asOboe_X8_asPart : jm_cf mX8_asOboe mX8_asPart 1 := ⟨jw_725, jw_1, ⟨by decide, by decide, by decide +kernel⟩, by decide, by decide⟩
theorem jf_X8_asHorn_X8_asPart : jm_cf mX8_asHorn mX8_asPart 1 := ⟨jw_725, jw_1, ⟨by decide, by decide, by decide +kernel⟩, by decide, by decide⟩
theorem jf_X8_asHorn_X8_costOf : jm_cf mX8_asHorn mX8_costOf 1 := ⟨jw_582, jw_1, ⟨by decide, by decide, by decide +kernel⟩, by decide, by decide⟩
theorem jf_X8_asSolo_X8_asOboe : jm_cf mX8_asSolo mX8_asOboe 1 := ⟨jw_729, jw_1, ⟨by decide, by decide, by decide +kernel⟩, by decide, by decide⟩
theorem jf_X8_asDrum_X8_asHorn : jm_cf mX8_asDrum mX8_asHorn 1 := ⟨jw_734, jw_1, ⟨by decide, by decide, by decide +kernel⟩, by decide, by decide⟩
theorem jf_X8_asFugue_X8_asPart : jm_cf mX8_asFugue mX8_asPart 1 := ⟨jw_725, jw_1, ⟨by decide, by decide, by decide +kernel⟩, by decide, by decide⟩
theorem jf_X9_type_X9_in : jm_cf mX9_type mX9_in 3 := ⟨jw_866, jw_10, ⟨by decide, by decide, by decide +kernel⟩, by decide, by decide⟩
theorem jf_X9_advances_X9_letterAt : jm_cf mX9_advances mX9_letterAt 1 := ⟨jw_882, jw_10, ⟨by decide, by decide, by decide +kernel⟩, by decide, by decide⟩
theorem jf_X9_advances_X9_in : jm_cf mX9_advances mX9_in 3 := ⟨jw_866, jw_10, ⟨by decide, by decide, by decide +kernel⟩, by decide, by decide⟩
theorem jf_X9_advances_X9_isLetter : jm_cf mX9_advances mX9_isLetter 1 := ⟨jw_885, jw_10, ⟨by decide, by decide, by decide +kernel⟩, by decide, by decide⟩
theorem jf_X9_takes_X9_isWell : jm_cf mX9_takes mX9_isWell 0 := ⟨jw_889, jw_10, ⟨by decide, by decide, by decide +kernel⟩, by decide, by decide⟩
theorem jf_X9_takes_X9_advances : jm_cf mX9_takes mX9_advances 0 := ⟨jw_878, jw_10, ⟨by decide, by decide, by decide +kernel⟩, by decide, by decide⟩
theorem jf_X9_number_X9_takes : jm_cf mX9_number mX9_takes 1 := ⟨jw_897, jw_10, ⟨by decide, by decide, by decide +kernel⟩, by decide, by decide⟩
theorem jf_X9_number_X9_in : jm_cf mX9_number mX9_in 3 := ⟨jw_866, jw_10, ⟨by decide, by decide, by decide +kernel⟩, by decide, by decide⟩
theorem jf_X9_readsItem_X9_number : jm_cf mX9_readsItem mX9_number 2 := ⟨jw_905, jw_10, ⟨by decide, by decide, by decide +kernel⟩, by decide, by decide⟩
theorem jf_X9_readsItem_X9_isWell : jm_cf mX9_readsItem mX9_isWell 0 := ⟨jw_889, jw_10, ⟨by decide, by decide, by decide +kernel⟩, by decide, by decide⟩
theorem jf_X9_readsItem_X9_takes : jm_cf mX9_readsItem mX9_takes 1 := ⟨jw_897, jw_10, ⟨by decide, by decide, by decide +kernel⟩, by decide, by decide⟩
theorem jf_X9_score_X9_advances : jm_cf mX9_score mX9_advances 0 := ⟨jw_878, jw_10, ⟨by decide, by decide, by decide +kernel⟩, by decide, by decide⟩
theorem jf_X9_score_X9_isWell : jm_cf mX9_score mX9_isWell 0 := ⟨jw_889, jw_10, ⟨by decide, by decide, by decide +kernel⟩, by decide, by decide⟩
theorem jf_X9_score_X9_mayBegin : jm_cf mX9_score mX9_mayBegin 1 := ⟨jw_893, jw_10, ⟨by decide, by decide, by decide +kernel⟩, by decide, by decide⟩
theorem jf_X9_score_X9_takes : jm_cf mX9_score mX9_takes 1 := ⟨jw_897, jw_10, ⟨by decide, by decide, by decide +kernel⟩, by decide, by decide⟩
theorem jf_X9_score_X9_readsItem : jm_cf mX9_score mX9_readsItem 1 := ⟨jw_901, jw_10, ⟨by decide, by decide, by decide +kernel⟩, by decide, by decide⟩
theorem jf_X9_score_X9_settles : jm_cf mX9_score mX9_settles 0 := ⟨jw_909, jw_10, ⟨by decide, by decide, by decide +kernel⟩, by decide, by decide⟩
theorem jf_X9_isPart_X9_in : jm_cf mX9_isPart mX9_in 3 := ⟨jw_866, jw_10, ⟨by decide, by decide, by decide +kernel⟩, by decide, by decide⟩
theorem jf_X9_isPlayer_X9_in : jm_cf mX9_isPlayer mX9_in 3 := ⟨jw_866, jw_10, ⟨by decide, by decide, by decide +kernel⟩, by decide, by decide⟩
theorem jf_X9_reckons_X9_allBars : jm_cf mX9_reckons mX9_allBars 0 := ⟨jw_933, jw_10, ⟨by decide, by decide, by decide +kernel⟩, by decide, by decide⟩
theorem jf_X9_payOf_X9_ones : jm_cf mX9_payOf mX9_ones 1 := ⟨jw_940, jw_10, ⟨by decide, by decide, by decide +kernel⟩, by decide, by decide⟩
theorem jf_X9_payOf_X9_restsIn : jm_cf mX9_payOf mX9_restsIn 1 := ⟨jw_944, jw_10, ⟨by decide, by decide, by decide +kernel⟩, by decide, by decide⟩
theorem jf_X9_payOfAll_X9_reckons : jm_cf mX9_payOfAll mX9_reckons 1 := ⟨jw_929, jw_10, ⟨by decide, by decide, by decide +kernel⟩, by decide, by decide⟩
theorem jf_X9_payOfAll_X9_payOf : jm_cf mX9_payOfAll mX9_payOf 2 := ⟨jw_937, jw_10, ⟨by decide, by decide, by decide +kernel⟩, by decide, by decide⟩
theorem jf_X9_part_X9_isPart : jm_cf mX9_part mX9_isPart 1 := ⟨jw_917, jw_10, ⟨by decide, by decide, by decide +kernel⟩, by decide, by decide⟩
theorem jf_X9_part_X9_in : jm_cf mX9_part mX9_in 3 := ⟨jw_866, jw_10, ⟨by decide, by decide, by decide +kernel⟩, by decide, by decide⟩
theorem jf_X9_player_X9_isPlayer : jm_cf mX9_player mX9_isPlayer 1 := ⟨jw_925, jw_10, ⟨by decide, by decide, by decide +kernel⟩, by decide, by decide⟩
theorem jf_X9_player_X9_in : jm_cf mX9_player mX9_in 3 := ⟨jw_866, jw_10, ⟨by decide, by decide, by decide +kernel⟩, by decide, by decide⟩
theorem jf_X9_player_X9_reckons : jm_cf mX9_player mX9_reckons 1 := ⟨jw_929, jw_10, ⟨by decide, by decide, by decide +kernel⟩, by decide, by decide⟩
theorem jf_X9_player_X9_partsOf : jm_cf mX9_player mX9_partsOf 1 := ⟨jw_952, jw_10, ⟨by decide, by decide, by decide +kernel⟩, by decide, by decide⟩
theorem jf_X9_player_X9_isOut : jm_cf mX9_player mX9_isOut 1 := ⟨jw_948, jw_10, ⟨by decide, by decide, by decide +kernel⟩, by decide, by decide⟩
theorem jf_X9_player_X9_payOf : jm_cf mX9_player mX9_payOf 2 := ⟨jw_937, jw_10, ⟨by decide, by decide, by decide +kernel⟩, by decide, by decide⟩
theorem jf_X9_coins_X9_isPlayer : jm_cf mX9_coins mX9_isPlayer 1 := ⟨jw_925, jw_10, ⟨by decide, by decide, by decide +kernel⟩, by decide, by decide⟩
theorem jf_X9_coins_X9_in : jm_cf mX9_coins mX9_in 3 := ⟨jw_866, jw_10, ⟨by decide, by decide, by decide +kernel⟩, by decide, by decide⟩
theorem jf_X9_coins_X9_reckons : jm_cf mX9_coins mX9_reckons 1 := ⟨jw_929, jw_10, ⟨by decide, by decide, by decide +kernel⟩, by decide, by decide⟩
theorem jf_X9_coins_X9_payOf : jm_cf mX9_coins mX9_payOf 2 := ⟨jw_937, jw_10, ⟨by decide, by decide, by decide +kernel⟩, by decide, by decide⟩
theorem jf_X9_now_X9_in : jm_cf mX9_now mX9_in 3 := ⟨jw_866, jw_10, ⟨by decide, by decide, by decide +kernel⟩, by decide, by decide⟩
theorem jf_X9_now_X9_reckons : jm_cf mX9_now mX9_reckons 1 := ⟨jw_929, jw_10, ⟨by decide, by decide, by decide +kernel⟩, by decide, by decide⟩
theorem jf_X9_now_X9_restsIn : jm_cf mX9_now mX9_restsIn 1 := ⟨jw_944, jw_10, ⟨by decide, by decide, by decide +kernel⟩, by decide, by decide⟩
theorem jf_X9_gives_X9_isPart : jm_cf mX9_gives mX9_isPart 1 := ⟨jw_917, jw_10, ⟨by decide, by decide, by decide +kernel⟩, by decide, by decide⟩
theorem jf_X9_gives_X9_isPlayer : jm_cf mX9_gives mX9_isPlayer 1 := ⟨jw_925, jw_10, ⟨by decide, by decide, by decide +kernel⟩, by decide, by decide⟩
theorem jf_X9_gives_X9_keepsAct : jm_cf mX9_gives mX9_keepsAct 0 := ⟨jw_969, jw_10, ⟨by decide, by decide, by decide +kernel⟩, by decide, by decide⟩
theorem jf_X9_sleeps_X9_isPlayer : jm_cf mX9_sleeps mX9_isPlayer 1 := ⟨jw_925, jw_10, ⟨by decide, by decide, by decide +kernel⟩, by decide, by decide⟩
theorem jf_X9_sleeps_X9_in : jm_cf mX9_sleeps mX9_in 3 := ⟨jw_866, jw_10, ⟨by decide, by decide, by decide +kernel⟩, by decide, by decide⟩
theorem jf_X9_sleeps_X9_keepsAct : jm_cf mX9_sleeps mX9_keepsAct 0 := ⟨jw_969, jw_10, ⟨by decide, by decide, by decide +kernel⟩, by decide, by decide⟩
theorem jf_X9_goes_X9_reckons : jm_cf mX9_goes mX9_reckons 1 := ⟨jw_929, jw_10, ⟨by decide, by decide, by decide +kernel⟩, by decide, by decide⟩
theorem jf_X9_goes_X9_payOf : jm_cf mX9_goes mX9_payOf 2 := ⟨jw_937, jw_10, ⟨by decide, by decide, by decide +kernel⟩, by decide, by decide⟩
theorem jf_X9_evening_X9_keepsAct : jm_cf mX9_evening mX9_keepsAct 0 := ⟨jw_969, jw_10, ⟨by decide, by decide, by decide +kernel⟩, by decide, by decide⟩
theorem jf_X9_evening_X9_goes : jm_cf mX9_evening mX9_goes 1 := ⟨jw_981, jw_10, ⟨by decide, by decide, by decide +kernel⟩, by decide, by decide⟩
theorem jf_X9_leastBy_X9_reckons : jm_cf mX9_leastBy mX9_reckons 1 := ⟨jw_929, jw_10, ⟨by decide, by decide, by decide +kernel⟩, by decide, by decide⟩
theorem jf_X9_leastBy_X9_payOf : jm_cf mX9_leastBy mX9_payOf 2 := ⟨jw_937, jw_10, ⟨by decide, by decide, by decide +kernel⟩, by decide, by decide⟩
theorem jf_X9_leastBy_X9_isOut : jm_cf mX9_leastBy mX9_isOut 1 := ⟨jw_948, jw_10, ⟨by decide, by decide, by decide +kernel⟩, by decide, by decide⟩
theorem jf_X9_share_X9_isPart : jm_cf mX9_share mX9_isPart 1 := ⟨jw_917, jw_10, ⟨by decide, by decide, by decide +kernel⟩, by decide, by decide⟩
theorem jf_X9_share_X9_leastBy : jm_cf mX9_share mX9_leastBy 1 := ⟨jw_993, jw_10, ⟨by decide, by decide, by decide +kernel⟩, by decide, by decide⟩
theorem jf_X9_costsOf_X9_reckons : jm_cf mX9_costsOf mX9_reckons 1 := ⟨jw_929, jw_10, ⟨by decide, by decide, by decide +kernel⟩, by decide, by decide⟩
theorem jf_X9_costsOf_X9_payOf : jm_cf mX9_costsOf mX9_payOf 2 := ⟨jw_937, jw_10, ⟨by decide, by decide, by decide +kernel⟩, by decide, by decide⟩
theorem jf_X9_costsOf_X9_asNow : jm_cf mX9_costsOf mX9_asNow 0 := ⟨jw_1006, jw_10, ⟨by decide, by decide, by decide +kernel⟩, by decide, by decide⟩
theorem jf_X9_costs_X9_isPart : jm_cf mX9_costs mX9_isPart 1 := ⟨jw_917, jw_10, ⟨by decide, by decide, by decide +kernel⟩, by decide, by decide⟩
theorem jf_X9_costs_X9_costsOf : jm_cf mX9_costs mX9_costsOf 1 := ⟨jw_1002, jw_10, ⟨by decide, by decide, by decide +kernel⟩, by decide, by decide⟩
theorem jf_X9_exchange_X9_payOfAll : jm_cf mX9_exchange mX9_payOfAll 1 := ⟨jw_1014, jw_10, ⟨by decide, by decide, by decide +kernel⟩, by decide, by decide⟩
theorem jf_X9_exchange_X9_asNow : jm_cf mX9_exchange mX9_asNow 0 := ⟨jw_1006, jw_10, ⟨by decide, by decide, by decide +kernel⟩, by decide, by decide⟩
theorem jf_X9_leftOut_X9_isPlayer : jm_cf mX9_leftOut mX9_isPlayer 1 := ⟨jw_925, jw_10, ⟨by decide, by decide, by decide +kernel⟩, by decide, by decide⟩
theorem jf_X9_leftOut_X9_in : jm_cf mX9_leftOut mX9_in 3 := ⟨jw_866, jw_10, ⟨by decide, by decide, by decide +kernel⟩, by decide, by decide⟩
theorem jf_X9_leftOut_X9_reckons : jm_cf mX9_leftOut mX9_reckons 1 := ⟨jw_929, jw_10, ⟨by decide, by decide, by decide +kernel⟩, by decide, by decide⟩
theorem jf_X9_leftOut_X9_allBars : jm_cf mX9_leftOut mX9_allBars 0 := ⟨jw_933, jw_10, ⟨by decide, by decide, by decide +kernel⟩, by decide, by decide⟩
theorem jf_X9_leftOut_X9_ones : jm_cf mX9_leftOut mX9_ones 1 := ⟨jw_940, jw_10, ⟨by decide, by decide, by decide +kernel⟩, by decide, by decide⟩
theorem jf_X9_leftOut_X9_payOf : jm_cf mX9_leftOut mX9_payOf 2 := ⟨jw_937, jw_10, ⟨by decide, by decide, by decide +kernel⟩, by decide, by decide⟩
theorem jf_X9_nobodys_X9_allBars : jm_cf mX9_nobodys mX9_allBars 0 := ⟨jw_933, jw_10, ⟨by decide, by decide, by decide +kernel⟩, by decide, by decide⟩
theorem jf_X9_bars_X9_in : jm_cf mX9_bars mX9_in 3 := ⟨jw_866, jw_10, ⟨by decide, by decide, by decide +kernel⟩, by decide, by decide⟩
theorem jf_X9_bars_X9_reckons : jm_cf mX9_bars mX9_reckons 1 := ⟨jw_929, jw_10, ⟨by decide, by decide, by decide +kernel⟩, by decide, by decide⟩
theorem jf_X9_bars_X9_allBars : jm_cf mX9_bars mX9_allBars 0 := ⟨jw_933, jw_10, ⟨by decide, by decide, by decide +kernel⟩, by decide, by decide⟩
theorem jf_X9_bars_X9_nobodys : jm_cf mX9_bars mX9_nobodys 0 := ⟨jw_1026, jw_10, ⟨by decide, by decide, by decide +kernel⟩, by decide, by decide⟩
theorem jf_X9_heard_X9_in : jm_cf mX9_heard mX9_in 3 := ⟨jw_866, jw_10, ⟨by decide, by decide, by decide +kernel⟩, by decide, by decide⟩
theorem jf_X9_heard_X9_heardBy : jm_cf mX9_heard mX9_heardBy 2 := ⟨jw_1034, jw_10, ⟨by decide, by decide, by decide +kernel⟩, by decide, by decide⟩
theorem jf_X9_rests_X9_reckons : jm_cf mX9_rests mX9_reckons 1 := ⟨jw_929, jw_10, ⟨by decide, by decide, by decide +kernel⟩, by decide, by decide⟩
theorem jf_X9_rests_X9_in : jm_cf mX9_rests mX9_in 3 := ⟨jw_866, jw_10, ⟨by decide, by decide, by decide +kernel⟩, by decide, by decide⟩
theorem jf_X9_rests_X9_restsIn : jm_cf mX9_rests mX9_restsIn 1 := ⟨jw_944, jw_10, ⟨by decide, by decide, by decide +kernel⟩, by decide, by decide⟩
theorem jf_X9_first_X9_reckons : jm_cf mX9_first mX9_reckons 1 := ⟨jw_929, jw_10, ⟨by decide, by decide, by decide +kernel⟩, by decide, by decide⟩
theorem jf_X9_first_X9_ones : jm_cf mX9_first mX9_ones 1 := ⟨jw_940, jw_10, ⟨by decide, by decide, by decide +kernel⟩, by decide, by decide⟩
theorem jf_X9_noted_X9_in : jm_cf mX9_noted mX9_in 3 := ⟨jw_866, jw_10, ⟨by decide, by decide, by decide +kernel⟩, by decide, by decide⟩
theorem jf_X9_isAsNoted_X9_asNow : jm_cf mX9_isAsNoted mX9_asNow 0 := ⟨jw_1006, jw_10, ⟨by decide, by decide, by decide +kernel⟩, by decide, by decide⟩
theorem jf_X9_isAsNoted_X9_allBars : jm_cf mX9_isAsNoted mX9_allBars 0 := ⟨jw_933, jw_10, ⟨by decide, by decide, by decide +kernel⟩, by decide, by decide⟩
theorem jf_X9_isAsNoted_X9_heardBy : jm_cf mX9_isAsNoted mX9_heardBy 2 := ⟨jw_1034, jw_10, ⟨by decide, by decide, by decide +kernel⟩, by decide, by decide⟩
theorem jf_X9_who_X9_isAsNoted : jm_cf mX9_who mX9_isAsNoted 1 := ⟨jw_1058, jw_10, ⟨by decide, by decide, by decide +kernel⟩, by decide, by decide⟩
theorem jf_X9_broke_X9_asNow : jm_cf mX9_broke mX9_asNow 0 := ⟨jw_1006, jw_10, ⟨by decide, by decide, by decide +kernel⟩, by decide, by decide⟩
theorem jf_X9_broke_X9_poorest : jm_cf mX9_broke mX9_poorest 1 := ⟨jw_1066, jw_10, ⟨by decide, by decide, by decide +kernel⟩, by decide, by decide⟩
theorem jf_X9_broke_X9_goes : jm_cf mX9_broke mX9_goes 1 := ⟨jw_981, jw_10, ⟨by decide, by decide, by decide +kernel⟩, by decide, by decide⟩
theorem jf_X9_rich_X9_in : jm_cf mX9_rich mX9_in 3 := ⟨jw_866, jw_10, ⟨by decide, by decide, by decide +kernel⟩, by decide, by decide⟩
theorem jf_X9_rich_X9_asNow : jm_cf mX9_rich mX9_asNow 0 := ⟨jw_1006, jw_10, ⟨by decide, by decide, by decide +kernel⟩, by decide, by decide⟩
theorem jf_X9_rich_X9_poorest : jm_cf mX9_rich mX9_poorest 1 := ⟨jw_1066, jw_10, ⟨by decide, by decide, by decide +kernel⟩, by decide, by decide⟩
theorem jf_X9_rich_X9_goes : jm_cf mX9_rich mX9_goes 1 := ⟨jw_981, jw_10, ⟨by decide, by decide, by decide +kernel⟩, by decide, by decide⟩
theorem jf_X9_odds_X9_in : jm_cf mX9_odds mX9_in 3 := ⟨jw_866, jw_10, ⟨by decide, by decide, by decide +kernel⟩, by decide, by decide⟩
theorem jf_X9_odds_X9_reckons : jm_cf mX9_odds mX9_reckons 1 := ⟨jw_929, jw_10, ⟨by decide, by decide, by decide +kernel⟩, by decide, by decide⟩
theorem jf_X9_odds_X9_gcd : jm_cf mX9_odds mX9_gcd 2 := ⟨jw_1077, jw_10, ⟨by decide, by decide, by decide +kernel⟩, by decide, by decide⟩
theorem jf_X9_odds_X9_asNow : jm_cf mX9_odds mX9_asNow 0 := ⟨jw_1006, jw_10, ⟨by decide, by decide, by decide +kernel⟩, by decide, by decide⟩
theorem jf_X9_odds_X9_heardBy : jm_cf mX9_odds mX9_heardBy 2 := ⟨jw_1034, jw_10, ⟨by decide, by decide, by decide +kernel⟩, by decide, by decide⟩
theorem jf_X9_rate_X9_in : jm_cf mX9_rate mX9_in 3 := ⟨jw_866, jw_10, ⟨by decide, by decide, by decide +kernel⟩, by decide, by decide⟩
theorem jf_X9_rate_X9_isPart : jm_cf mX9_rate mX9_isPart 1 := ⟨jw_917, jw_10, ⟨by decide, by decide, by decide +kernel⟩, by decide, by decide⟩
theorem jf_X9_rate_X9_ones : jm_cf mX9_rate mX9_ones 1 := ⟨jw_940, jw_10, ⟨by decide, by decide, by decide +kernel⟩, by decide, by decide⟩
theorem jf_X9_rate_X9_costsOf : jm_cf mX9_rate mX9_costsOf 1 := ⟨jw_1002, jw_10, ⟨by decide, by decide, by decide +kernel⟩, by decide, by decide⟩
theorem jf_X9_keep_X9_in : jm_cf mX9_keep mX9_in 3 := ⟨jw_866, jw_10, ⟨by decide, by decide, by decide +kernel⟩, by decide, by decide⟩
theorem jf_X9_back_X9_in : jm_cf mX9_back mX9_in 3 := ⟨jw_866, jw_10, ⟨by decide, by decide, by decide +kernel⟩, by decide, by decide⟩
theorem jf_X9_count_X9_in : jm_cf mX9_count mX9_in 3 := ⟨jw_866, jw_10, ⟨by decide, by decide, by decide +kernel⟩, by decide, by decide⟩
