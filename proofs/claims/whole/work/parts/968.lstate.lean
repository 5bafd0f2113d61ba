
/-! ===== LAW: the state ===== -/
structure CS where
  f_reader_many : Int
  f_reader_place : Int
  f_reader_fault : Int
  f_reader_numberPlace : Int
  f_reader_bytes : Nat → Int
  f_web_knotMany : Int
  f_web_thereMany : Int
  f_web_groupMany : Int
  f_web_rims : Nat → Int
  f_web_froms : Nat → Int
  f_web_tos : Nat → Int
  f_web_steps_many : Int
  f_web_steps_xs : Nat → Int
  f_web_steps_ys : Nat → Int
  f_web_steps_zs : Nat → Int
  f_web_there : Nat → Int
  f_web_chosen : Nat → Int
  f_web_groups : Nat → Int
  f_web_sums_many : Int
  f_web_sums_xs : Nat → Int
  f_web_sums_ys : Nat → Int
  f_web_sums_zs : Nat → Int
  f_web_worths : Nat → Int
  f_web_leasts : Nat → Int
  f_web_firsts : Nat → Int
  f_pull_x : Int
  f_pull_y : Int
  f_pull_z : Int
  f_pull_product : Int
  f_pull_above : Int
  f_pull_below : Int
  f_row_flaws : Int
  f_row_slipped : Int
  f_row_gone : Int
  f_row_work : Int
  f_row_out : Int
  f_row_lost : Int
  f_row_came : Int
  f_row_signs : Nat → Int
  f_row_stood : Nat → Int
  f_row_felt : Nat → Int
  f_marked_flaws : Int
  f_marked_slipped : Int
  f_marked_gone : Int
  f_marked_work : Int
  f_marked_out : Int
  f_marked_lost : Int
  f_marked_came : Int
  f_marked_signs : Nat → Int
  f_marked_stood : Nat → Int
  f_marked_felt : Nat → Int
  f_acts_now : Int
  f_acts_last : Int
  f_acts_kept : Nat → Nat
  f_acts_kept_R : Nat → RowT
  f_trials_pullMany : Int
  f_trials_bestMany : Int
  f_trials_distanceMany : Int
  f_trials_pushStep : Int
  f_trials_foundMany : Int
  f_trials_rows : Nat → Nat
  f_trials_rows_R : Nat → RowT
  f_trials_ground_speckMany : Int
  f_trials_ground_sourceMany : Int
  f_trials_ground_baseTold : Int
  f_trials_ground_baseLow : Int
  f_trials_ground_baseHigh : Int
  f_trials_ground_reach : Int
  f_trials_ground_pushes : Nat → Int
  f_trials_ground_pushTold : Nat → Int
  f_trials_ground_lows : Nat → Int
  f_trials_ground_highs : Nat → Int
  f_trials_ground_speckTold : Nat → Int
  f_trials_ground_sourceHolds : Nat → Int
  f_trials_ground_sourceTold : Nat → Int
  f_trials_ground_sources : Nat → Int
  f_trials_pulls : Nat → Int
  f_trials_tried : Nat → Int
  f_trials_best : Nat → Int
  f_trials_distances : Nat → Int
  f_trials_found : Nat → Int
  f_grain_many : Int
  f_grain_ownPart : Int
  f_grain_crossPart : Int
  f_grain_pointMany : Int
  f_grain_wallFirst : Int
  f_grain_wallSize : Int
  f_grain_rows : Nat → Nat
  f_grain_rows_R : Nat → RowT
  f_grain_planes_many : Int
  f_grain_planes_xs : Nat → Int
  f_grain_planes_ys : Nat → Int
  f_grain_planes_zs : Nat → Int
  f_grain_steps_many : Int
  f_grain_steps_xs : Nat → Int
  f_grain_steps_ys : Nat → Int
  f_grain_steps_zs : Nat → Int
  f_grain_hardnesses : Nat → Int
  f_grain_forces : Nat → Int
  f_grain_points : Nat → Int
  f_crystal_sightMany : Int
  f_crystal_steps_many : Int
  f_crystal_steps_xs : Nat → Int
  f_crystal_steps_ys : Nat → Int
  f_crystal_steps_zs : Nat → Int
  f_crystal_planes_many : Int
  f_crystal_planes_xs : Nat → Int
  f_crystal_planes_ys : Nat → Int
  f_crystal_planes_zs : Nat → Int
  f_crystal_eyes_many : Int
  f_crystal_eyes_xs : Nat → Int
  f_crystal_eyes_ys : Nat → Int
  f_crystal_eyes_zs : Nat → Int
  f_crystal_ground_speckMany : Int
  f_crystal_ground_sourceMany : Int
  f_crystal_ground_baseTold : Int
  f_crystal_ground_baseLow : Int
  f_crystal_ground_baseHigh : Int
  f_crystal_ground_reach : Int
  f_crystal_ground_pushes : Nat → Int
  f_crystal_ground_pushTold : Nat → Int
  f_crystal_ground_lows : Nat → Int
  f_crystal_ground_highs : Nat → Int
  f_crystal_ground_speckTold : Nat → Int
  f_crystal_ground_sourceHolds : Nat → Int
  f_crystal_ground_sourceTold : Nat → Int
  f_crystal_ground_sources : Nat → Int
  f_crystal_sightEyes : Nat → Int
  f_crystal_sightSeen : Nat → Int
  f_spare_sightMany : Int
  f_spare_steps_many : Int
  f_spare_steps_xs : Nat → Int
  f_spare_steps_ys : Nat → Int
  f_spare_steps_zs : Nat → Int
  f_spare_planes_many : Int
  f_spare_planes_xs : Nat → Int
  f_spare_planes_ys : Nat → Int
  f_spare_planes_zs : Nat → Int
  f_spare_eyes_many : Int
  f_spare_eyes_xs : Nat → Int
  f_spare_eyes_ys : Nat → Int
  f_spare_eyes_zs : Nat → Int
  f_spare_ground_speckMany : Int
  f_spare_ground_sourceMany : Int
  f_spare_ground_baseTold : Int
  f_spare_ground_baseLow : Int
  f_spare_ground_baseHigh : Int
  f_spare_ground_reach : Int
  f_spare_ground_pushes : Nat → Int
  f_spare_ground_pushTold : Nat → Int
  f_spare_ground_lows : Nat → Int
  f_spare_ground_highs : Nat → Int
  f_spare_ground_speckTold : Nat → Int
  f_spare_ground_sourceHolds : Nat → Int
  f_spare_ground_sourceTold : Nat → Int
  f_spare_ground_sources : Nat → Int
  f_spare_sightEyes : Nat → Int
  f_spare_sightSeen : Nat → Int
structure MS where
  f_thrown : Int
  f_taped : Int
  f_p : Int
  f_fault : Int
  f_baseLow : Int
  f_baseHigh : Int
  f_newBaseLow : Int
  f_newBaseHigh : Int
  f_from : Int
  f_knots : Int
  f_lines : Int
  f_chosen : Int
  f_undos : Int
  f_redos : Int
  f_aimedMany : Int
  f_fits : Int
  f_fitOf : Int
  f_sights : Int
  f_systems : Int
  f_own : Int
  f_cross : Int
  f_curveLong : Int
  f_wallFirst : Int
  f_tape : Nat → Int
  f_many : Nat → Int
  f_newMany : Nat → Int
  f_way : Nat → Int
  f_newWay : Nat → Int
  f_push : Nat → Int
  f_newPush : Nat → Int
  f_speckLow : Nat → Int
  f_speckHigh : Nat → Int
  f_sourceHold : Nat → Int
  f_newLow : Nat → Int
  f_newHigh : Nat → Int
  f_newHold : Nat → Int
  f_isRim : Nat → Int
  f_isGone : Nat → Int
  f_start : Nat → Int
  f_goal : Nat → Int
  f_line : Nat → Int
  f_sum3 : Nat → Int
  f_choice : Nat → Int
  f_cost : Nat → Int
  f_best : Nat → Int
  f_groupOf : Nat → Int
  f_cur : Nat → Int
  f_was : Nat → Int
  f_feel : Nat → Int
  f_pushAt : Nat → Int
  f_curSum : Nat → Int
  f_row : Nat → Int
  f_marked : Nat → Int
  f_sums : Nat → Int
  f_undoRow : Nat → Int
  f_redoRow : Nat → Int
  f_undoSum : Nat → Int
  f_redoSum : Nat → Int
  f_other : Nat → Int
  f_otherSum : Nat → Int
  f_pull : Nat → Int
  f_aimed : Nat → Int
  f_distance : Nat → Int
  f_fitted : Nat → Int
  f_sightEye : Nat → Int
  f_sightSeen : Nat → Int
  f_grain : Nat → Int
  f_ways : Nat → Int
  f_harder : Nat → Int
  f_grainSum : Nat → Int
  f_curve : Nat → Int
def asC (a_t a_c a_s : Nat) : List Nat := [a_t, (a_t + 1), (a_t + 2), (a_t + 3), (a_t + 4), (a_t + 5), (a_t + 6), (a_t + 7), (a_t + 8), (a_t + 9), (a_t + 10), (a_t + 11), (a_t + 12), (a_t + 13), (a_t + 14), (a_t + 15), (a_t + 16), (a_t + 17), (a_t + 18), (a_t + 19), (a_t + 20), (a_t + 21), (a_t + 22), (a_t + 23), (a_t + 24), (a_t + 25), (a_t + 26), (a_t + 27), (a_t + 28), (a_t + 29), (a_t + 30), (a_t + 31), (a_t + 236), (a_t + 237), (a_t + 238), (a_t + 239), (a_t + 240), (a_t + 241), (a_t + 242), (a_t + 243), (a_t + 244), (a_t + 245), (a_t + 246), (a_t + 247), (a_t + 248), (a_t + 249), (a_t + 250), (a_t + 251), (a_t + 276), (a_t + 277), (a_t + 278), (a_t + 279), (a_t + 280), (a_t + 281), (a_t + 282), (a_t + 283), (a_t + 284), (a_t + 285), (a_t + 286), (a_t + 287), (a_t + 288), a_c, (a_c + 1), (a_c + 2), (a_c + 3), (a_c + 4), (a_c + 5), (a_c + 6), (a_c + 7), (a_c + 8), (a_c + 9), (a_c + 10), (a_c + 11), (a_c + 12), (a_c + 13), (a_c + 14), (a_c + 15), (a_c + 16), (a_c + 17), (a_c + 18), (a_c + 19), (a_c + 20), (a_c + 21), (a_c + 22), (a_c + 23), a_s, (a_s + 1), (a_s + 2), (a_s + 3), (a_s + 4), (a_s + 5), (a_s + 6), (a_s + 7), (a_s + 8), (a_s + 9), (a_s + 10), (a_s + 11), (a_s + 12), (a_s + 13), (a_s + 14), (a_s + 15), (a_s + 16), (a_s + 17), (a_s + 18), (a_s + 19), (a_s + 20), (a_s + 21), (a_s + 22), (a_s + 23)]
def esC (E : EE) (a_t a_c a_s : Nat) (s : CS) : List va_E := [.inr (10, fsX10 a_t a_c a_s), .inr (5, fsX5 (a_t + 1) s.f_reader_many s.f_reader_place s.f_reader_fault s.f_reader_numberPlace), IA E 400 s.f_reader_bytes, .inr (9, fsX9 (a_t + 3) s.f_web_knotMany s.f_web_thereMany s.f_web_groupMany), ZA E 60 s.f_web_rims, IA E 120 s.f_web_froms, IA E 120 s.f_web_tos, .inr (8, fsX8 (a_t + 7) s.f_web_steps_many), IA E 120 s.f_web_steps_xs, IA E 120 s.f_web_steps_ys, IA E 120 s.f_web_steps_zs, ZA E 120 s.f_web_there, IA E 8 s.f_web_chosen, IA E 8 s.f_web_groups, .inr (8, fsX8 (a_t + 14) s.f_web_sums_many), IA E 256 s.f_web_sums_xs, IA E 256 s.f_web_sums_ys, IA E 256 s.f_web_sums_zs, IA E 256 s.f_web_worths, IA E 256 s.f_web_leasts, IA E 256 s.f_web_firsts, .inr (4, fsX4 (a_t + 21) s.f_pull_x s.f_pull_y s.f_pull_z s.f_pull_product s.f_pull_above s.f_pull_below), .inr (6, fsX6 (a_t + 22) s.f_row_flaws s.f_row_slipped s.f_row_gone s.f_row_work s.f_row_out s.f_row_lost s.f_row_came), IA E 100 s.f_row_signs, IA E 30 s.f_row_stood, IA E 30 s.f_row_felt, .inr (6, fsX6 (a_t + 26) s.f_marked_flaws s.f_marked_slipped s.f_marked_gone s.f_marked_work s.f_marked_out s.f_marked_lost s.f_marked_came), IA E 100 s.f_marked_signs, IA E 30 s.f_marked_stood, IA E 30 s.f_marked_felt, .inr (0, fsX0 (a_t + 30) s.f_acts_now s.f_acts_last), RK E 51 (a_t + 32) s.f_acts_kept, .inr (7, fsX7 (a_t + 236) s.f_trials_pullMany s.f_trials_bestMany s.f_trials_distanceMany s.f_trials_pushStep s.f_trials_foundMany), RK E 6 (a_t + 252) s.f_trials_rows, .inr (3, fsX3 (a_t + 238) s.f_trials_ground_speckMany s.f_trials_ground_sourceMany s.f_trials_ground_baseTold s.f_trials_ground_baseLow s.f_trials_ground_baseHigh s.f_trials_ground_reach), IA E 21 s.f_trials_ground_pushes, ZA E 21 s.f_trials_ground_pushTold, IA E 100 s.f_trials_ground_lows, IA E 100 s.f_trials_ground_highs, ZA E 100 s.f_trials_ground_speckTold, IA E 100 s.f_trials_ground_sourceHolds, ZA E 100 s.f_trials_ground_sourceTold, IA E 5 s.f_trials_ground_sources, IA E 4 s.f_trials_pulls, IA E 5 s.f_trials_tried, IA E 5 s.f_trials_best, IA E 3 s.f_trials_distances, IA E 512 s.f_trials_found, .inr (2, fsX2 (a_t + 276) s.f_grain_many s.f_grain_ownPart s.f_grain_crossPart s.f_grain_pointMany s.f_grain_wallFirst s.f_grain_wallSize), RK E 8 (a_t + 289) s.f_grain_rows, .inr (8, fsX8 (a_t + 278) s.f_grain_planes_many), IA E 8 s.f_grain_planes_xs, IA E 8 s.f_grain_planes_ys, IA E 8 s.f_grain_planes_zs, .inr (8, fsX8 (a_t + 282) s.f_grain_steps_many), IA E 8 s.f_grain_steps_xs, IA E 8 s.f_grain_steps_ys, IA E 8 s.f_grain_steps_zs, JA E 8 s.f_grain_hardnesses, IA E 8 s.f_grain_forces, JA E 20 s.f_grain_points, .inr (1, fsX1 a_c s.f_crystal_sightMany), .inr (8, fsX8 (a_c + 1) s.f_crystal_steps_many), IA E 16 s.f_crystal_steps_xs, IA E 16 s.f_crystal_steps_ys, IA E 16 s.f_crystal_steps_zs, .inr (8, fsX8 (a_c + 5) s.f_crystal_planes_many), IA E 16 s.f_crystal_planes_xs, IA E 16 s.f_crystal_planes_ys, IA E 16 s.f_crystal_planes_zs, .inr (8, fsX8 (a_c + 9) s.f_crystal_eyes_many), IA E 16 s.f_crystal_eyes_xs, IA E 16 s.f_crystal_eyes_ys, IA E 16 s.f_crystal_eyes_zs, .inr (3, fsX3 (a_c + 13) s.f_crystal_ground_speckMany s.f_crystal_ground_sourceMany s.f_crystal_ground_baseTold s.f_crystal_ground_baseLow s.f_crystal_ground_baseHigh s.f_crystal_ground_reach), IA E 21 s.f_crystal_ground_pushes, ZA E 21 s.f_crystal_ground_pushTold, IA E 100 s.f_crystal_ground_lows, IA E 100 s.f_crystal_ground_highs, ZA E 100 s.f_crystal_ground_speckTold, IA E 100 s.f_crystal_ground_sourceHolds, ZA E 100 s.f_crystal_ground_sourceTold, IA E 5 s.f_crystal_ground_sources, IA E 20 s.f_crystal_sightEyes, ZA E 20 s.f_crystal_sightSeen, .inr (1, fsX1 a_s s.f_spare_sightMany), .inr (8, fsX8 (a_s + 1) s.f_spare_steps_many), IA E 16 s.f_spare_steps_xs, IA E 16 s.f_spare_steps_ys, IA E 16 s.f_spare_steps_zs, .inr (8, fsX8 (a_s + 5) s.f_spare_planes_many), IA E 16 s.f_spare_planes_xs, IA E 16 s.f_spare_planes_ys, IA E 16 s.f_spare_planes_zs, .inr (8, fsX8 (a_s + 9) s.f_spare_eyes_many), IA E 16 s.f_spare_eyes_xs, IA E 16 s.f_spare_eyes_ys, IA E 16 s.f_spare_eyes_zs, .inr (3, fsX3 (a_s + 13) s.f_spare_ground_speckMany s.f_spare_ground_sourceMany s.f_spare_ground_baseTold s.f_spare_ground_baseLow s.f_spare_ground_baseHigh s.f_spare_ground_reach), IA E 21 s.f_spare_ground_pushes, ZA E 21 s.f_spare_ground_pushTold, IA E 100 s.f_spare_ground_lows, IA E 100 s.f_spare_ground_highs, ZA E 100 s.f_spare_ground_speckTold, IA E 100 s.f_spare_ground_sourceHolds, ZA E 100 s.f_spare_ground_sourceTold, IA E 5 s.f_spare_ground_sources, IA E 20 s.f_spare_sightEyes, ZA E 20 s.f_spare_sightSeen]
def asM (a_m : Nat) : List Nat := [a_m, (a_m + 1), (a_m + 2), (a_m + 3), (a_m + 4), (a_m + 5), (a_m + 6), (a_m + 7), (a_m + 8), (a_m + 9), (a_m + 10), (a_m + 11), (a_m + 12), (a_m + 13), (a_m + 14), (a_m + 15), (a_m + 16), (a_m + 17), (a_m + 18), (a_m + 19), (a_m + 20), (a_m + 21), (a_m + 22), (a_m + 23), (a_m + 24), (a_m + 25), (a_m + 26), (a_m + 27), (a_m + 28), (a_m + 29), (a_m + 30), (a_m + 31), (a_m + 32), (a_m + 33), (a_m + 34), (a_m + 35), (a_m + 36), (a_m + 37), (a_m + 38), (a_m + 39), (a_m + 40), (a_m + 41), (a_m + 42), (a_m + 43), (a_m + 44), (a_m + 45), (a_m + 46), (a_m + 47), (a_m + 48)]
def esM (E : EE) (a_m : Nat) (m : MS) : List va_E := [.inr (11, fsX11 a_m m.f_thrown m.f_taped m.f_p m.f_fault m.f_baseLow m.f_baseHigh m.f_newBaseLow m.f_newBaseHigh m.f_from m.f_knots m.f_lines m.f_chosen m.f_undos m.f_redos m.f_aimedMany m.f_fits m.f_fitOf m.f_sights m.f_systems m.f_own m.f_cross m.f_curveLong m.f_wallFirst), YA E 400 m.f_tape, IA E 7 m.f_many, IA E 7 m.f_newMany, IA E 144 m.f_way, IA E 144 m.f_newWay, IA E 21 m.f_push, IA E 21 m.f_newPush, IA E 100 m.f_speckLow, IA E 100 m.f_speckHigh, IA E 100 m.f_sourceHold, IA E 100 m.f_newLow, IA E 100 m.f_newHigh, IA E 100 m.f_newHold, ZA E 60 m.f_isRim, ZA E 120 m.f_isGone, IA E 120 m.f_start, IA E 120 m.f_goal, IA E 360 m.f_line, IA E 3 m.f_sum3, IA E 8 m.f_choice, IA E 256 m.f_cost, IA E 256 m.f_best, IA E 8 m.f_groupOf, IA E 100 m.f_cur, IA E 100 m.f_was, IA E 100 m.f_feel, IA E 21 m.f_pushAt, JA E 6 m.f_curSum, IA E 100 m.f_row, IA E 100 m.f_marked, JA E 6 m.f_sums, IA E 5000 m.f_undoRow, IA E 5000 m.f_redoRow, JA E 300 m.f_undoSum, JA E 300 m.f_redoSum, IA E 100 m.f_other, JA E 6 m.f_otherSum, IA E 4 m.f_pull, IA E 5 m.f_aimed, IA E 3 m.f_distance, IA E 1536 m.f_fitted, IA E 20 m.f_sightEye, ZA E 20 m.f_sightSeen, IA E 800 m.f_grain, IA E 48 m.f_ways, IA E 8 m.f_harder, JA E 48 m.f_grainSum, JA E 20 m.f_curve]
structure OKC (s : CS) : Prop where
  o_reader_many : inI s.f_reader_many
  o_reader_place : inI s.f_reader_place
  o_reader_fault : inI s.f_reader_fault
  o_reader_numberPlace : inI s.f_reader_numberPlace
  o_reader_bytes : okA s.f_reader_bytes
  o_web_knotMany : inI s.f_web_knotMany
  o_web_thereMany : inI s.f_web_thereMany
  o_web_groupMany : inI s.f_web_groupMany
  o_web_rims : okZ s.f_web_rims
  o_web_froms : okA s.f_web_froms
  o_web_tos : okA s.f_web_tos
  o_web_steps_many : inI s.f_web_steps_many
  o_web_steps_xs : okA s.f_web_steps_xs
  o_web_steps_ys : okA s.f_web_steps_ys
  o_web_steps_zs : okA s.f_web_steps_zs
  o_web_there : okZ s.f_web_there
  o_web_chosen : okA s.f_web_chosen
  o_web_groups : okA s.f_web_groups
  o_web_sums_many : inI s.f_web_sums_many
  o_web_sums_xs : okA s.f_web_sums_xs
  o_web_sums_ys : okA s.f_web_sums_ys
  o_web_sums_zs : okA s.f_web_sums_zs
  o_web_worths : okA s.f_web_worths
  o_web_leasts : okA s.f_web_leasts
  o_web_firsts : okA s.f_web_firsts
  o_pull_x : inI s.f_pull_x
  o_pull_y : inI s.f_pull_y
  o_pull_z : inI s.f_pull_z
  o_pull_product : inJ s.f_pull_product
  o_pull_above : inJ s.f_pull_above
  o_pull_below : inJ s.f_pull_below
  o_row_flaws : inI s.f_row_flaws
  o_row_slipped : inI s.f_row_slipped
  o_row_gone : inI s.f_row_gone
  o_row_work : inJ s.f_row_work
  o_row_out : inI s.f_row_out
  o_row_lost : inI s.f_row_lost
  o_row_came : inI s.f_row_came
  o_row_signs : okA s.f_row_signs
  o_row_stood : okA s.f_row_stood
  o_row_felt : okA s.f_row_felt
  o_marked_flaws : inI s.f_marked_flaws
  o_marked_slipped : inI s.f_marked_slipped
  o_marked_gone : inI s.f_marked_gone
  o_marked_work : inJ s.f_marked_work
  o_marked_out : inI s.f_marked_out
  o_marked_lost : inI s.f_marked_lost
  o_marked_came : inI s.f_marked_came
  o_marked_signs : okA s.f_marked_signs
  o_marked_stood : okA s.f_marked_stood
  o_marked_felt : okA s.f_marked_felt
  o_acts_now : inI s.f_acts_now
  o_acts_last : inI s.f_acts_last
  o_acts_kept_R : okR s.f_acts_kept_R
  o_trials_pullMany : inI s.f_trials_pullMany
  o_trials_bestMany : inI s.f_trials_bestMany
  o_trials_distanceMany : inI s.f_trials_distanceMany
  o_trials_pushStep : inI s.f_trials_pushStep
  o_trials_foundMany : inI s.f_trials_foundMany
  o_trials_rows_R : okR s.f_trials_rows_R
  o_trials_ground_speckMany : inI s.f_trials_ground_speckMany
  o_trials_ground_sourceMany : inI s.f_trials_ground_sourceMany
  o_trials_ground_baseTold : inZ s.f_trials_ground_baseTold
  o_trials_ground_baseLow : inI s.f_trials_ground_baseLow
  o_trials_ground_baseHigh : inI s.f_trials_ground_baseHigh
  o_trials_ground_reach : inI s.f_trials_ground_reach
  o_trials_ground_pushes : okA s.f_trials_ground_pushes
  o_trials_ground_pushTold : okZ s.f_trials_ground_pushTold
  o_trials_ground_lows : okA s.f_trials_ground_lows
  o_trials_ground_highs : okA s.f_trials_ground_highs
  o_trials_ground_speckTold : okZ s.f_trials_ground_speckTold
  o_trials_ground_sourceHolds : okA s.f_trials_ground_sourceHolds
  o_trials_ground_sourceTold : okZ s.f_trials_ground_sourceTold
  o_trials_ground_sources : okA s.f_trials_ground_sources
  o_trials_pulls : okA s.f_trials_pulls
  o_trials_tried : okA s.f_trials_tried
  o_trials_best : okA s.f_trials_best
  o_trials_distances : okA s.f_trials_distances
  o_trials_found : okA s.f_trials_found
  o_grain_many : inI s.f_grain_many
  o_grain_ownPart : inI s.f_grain_ownPart
  o_grain_crossPart : inI s.f_grain_crossPart
  o_grain_pointMany : inI s.f_grain_pointMany
  o_grain_wallFirst : inI s.f_grain_wallFirst
  o_grain_wallSize : inI s.f_grain_wallSize
  o_grain_rows_R : okR s.f_grain_rows_R
  o_grain_planes_many : inI s.f_grain_planes_many
  o_grain_planes_xs : okA s.f_grain_planes_xs
  o_grain_planes_ys : okA s.f_grain_planes_ys
  o_grain_planes_zs : okA s.f_grain_planes_zs
  o_grain_steps_many : inI s.f_grain_steps_many
  o_grain_steps_xs : okA s.f_grain_steps_xs
  o_grain_steps_ys : okA s.f_grain_steps_ys
  o_grain_steps_zs : okA s.f_grain_steps_zs
  o_grain_hardnesses : okJ s.f_grain_hardnesses
  o_grain_forces : okA s.f_grain_forces
  o_grain_points : okJ s.f_grain_points
  o_crystal_sightMany : inI s.f_crystal_sightMany
  o_crystal_steps_many : inI s.f_crystal_steps_many
  o_crystal_steps_xs : okA s.f_crystal_steps_xs
  o_crystal_steps_ys : okA s.f_crystal_steps_ys
  o_crystal_steps_zs : okA s.f_crystal_steps_zs
  o_crystal_planes_many : inI s.f_crystal_planes_many
  o_crystal_planes_xs : okA s.f_crystal_planes_xs
  o_crystal_planes_ys : okA s.f_crystal_planes_ys
  o_crystal_planes_zs : okA s.f_crystal_planes_zs
  o_crystal_eyes_many : inI s.f_crystal_eyes_many
  o_crystal_eyes_xs : okA s.f_crystal_eyes_xs
  o_crystal_eyes_ys : okA s.f_crystal_eyes_ys
  o_crystal_eyes_zs : okA s.f_crystal_eyes_zs
  o_crystal_ground_speckMany : inI s.f_crystal_ground_speckMany
  o_crystal_ground_sourceMany : inI s.f_crystal_ground_sourceMany
  o_crystal_ground_baseTold : inZ s.f_crystal_ground_baseTold
  o_crystal_ground_baseLow : inI s.f_crystal_ground_baseLow
  o_crystal_ground_baseHigh : inI s.f_crystal_ground_baseHigh
  o_crystal_ground_reach : inI s.f_crystal_ground_reach
  o_crystal_ground_pushes : okA s.f_crystal_ground_pushes
  o_crystal_ground_pushTold : okZ s.f_crystal_ground_pushTold
  o_crystal_ground_lows : okA s.f_crystal_ground_lows
  o_crystal_ground_highs : okA s.f_crystal_ground_highs
  o_crystal_ground_speckTold : okZ s.f_crystal_ground_speckTold
  o_crystal_ground_sourceHolds : okA s.f_crystal_ground_sourceHolds
  o_crystal_ground_sourceTold : okZ s.f_crystal_ground_sourceTold
  o_crystal_ground_sources : okA s.f_crystal_ground_sources
  o_crystal_sightEyes : okA s.f_crystal_sightEyes
  o_crystal_sightSeen : okZ s.f_crystal_sightSeen
  o_spare_sightMany : inI s.f_spare_sightMany
  o_spare_steps_many : inI s.f_spare_steps_many
  o_spare_steps_xs : okA s.f_spare_steps_xs
  o_spare_steps_ys : okA s.f_spare_steps_ys
  o_spare_steps_zs : okA s.f_spare_steps_zs
  o_spare_planes_many : inI s.f_spare_planes_many
  o_spare_planes_xs : okA s.f_spare_planes_xs
  o_spare_planes_ys : okA s.f_spare_planes_ys
  o_spare_planes_zs : okA s.f_spare_planes_zs
  o_spare_eyes_many : inI s.f_spare_eyes_many
  o_spare_eyes_xs : okA s.f_spare_eyes_xs
  o_spare_eyes_ys : okA s.f_spare_eyes_ys
  o_spare_eyes_zs : okA s.f_spare_eyes_zs
  o_spare_ground_speckMany : inI s.f_spare_ground_speckMany
  o_spare_ground_sourceMany : inI s.f_spare_ground_sourceMany
  o_spare_ground_baseTold : inZ s.f_spare_ground_baseTold
  o_spare_ground_baseLow : inI s.f_spare_ground_baseLow
  o_spare_ground_baseHigh : inI s.f_spare_ground_baseHigh
  o_spare_ground_reach : inI s.f_spare_ground_reach
  o_spare_ground_pushes : okA s.f_spare_ground_pushes
  o_spare_ground_pushTold : okZ s.f_spare_ground_pushTold
  o_spare_ground_lows : okA s.f_spare_ground_lows
  o_spare_ground_highs : okA s.f_spare_ground_highs
  o_spare_ground_speckTold : okZ s.f_spare_ground_speckTold
  o_spare_ground_sourceHolds : okA s.f_spare_ground_sourceHolds
  o_spare_ground_sourceTold : okZ s.f_spare_ground_sourceTold
  o_spare_ground_sources : okA s.f_spare_ground_sources
  o_spare_sightEyes : okA s.f_spare_sightEyes
  o_spare_sightSeen : okZ s.f_spare_sightSeen
structure OKM (m : MS) : Prop where
  o_thrown : inI m.f_thrown
  o_taped : inI m.f_taped
  o_p : inI m.f_p
  o_fault : inI m.f_fault
  o_baseLow : inI m.f_baseLow
  o_baseHigh : inI m.f_baseHigh
  o_newBaseLow : inI m.f_newBaseLow
  o_newBaseHigh : inI m.f_newBaseHigh
  o_from : inI m.f_from
  o_knots : inI m.f_knots
  o_lines : inI m.f_lines
  o_chosen : inI m.f_chosen
  o_undos : inI m.f_undos
  o_redos : inI m.f_redos
  o_aimedMany : inI m.f_aimedMany
  o_fits : inI m.f_fits
  o_fitOf : inI m.f_fitOf
  o_sights : inI m.f_sights
  o_systems : inI m.f_systems
  o_own : inI m.f_own
  o_cross : inI m.f_cross
  o_curveLong : inI m.f_curveLong
  o_wallFirst : inI m.f_wallFirst
  o_tape : okY m.f_tape
  o_many : okA m.f_many
  o_newMany : okA m.f_newMany
  o_way : okA m.f_way
  o_newWay : okA m.f_newWay
  o_push : okA m.f_push
  o_newPush : okA m.f_newPush
  o_speckLow : okA m.f_speckLow
  o_speckHigh : okA m.f_speckHigh
  o_sourceHold : okA m.f_sourceHold
  o_newLow : okA m.f_newLow
  o_newHigh : okA m.f_newHigh
  o_newHold : okA m.f_newHold
  o_isRim : okZ m.f_isRim
  o_isGone : okZ m.f_isGone
  o_start : okA m.f_start
  o_goal : okA m.f_goal
  o_line : okA m.f_line
  o_sum3 : okA m.f_sum3
  o_choice : okA m.f_choice
  o_cost : okA m.f_cost
  o_best : okA m.f_best
  o_groupOf : okA m.f_groupOf
  o_cur : okA m.f_cur
  o_was : okA m.f_was
  o_feel : okA m.f_feel
  o_pushAt : okA m.f_pushAt
  o_curSum : okJ m.f_curSum
  o_row : okA m.f_row
  o_marked : okA m.f_marked
  o_sums : okJ m.f_sums
  o_undoRow : okA m.f_undoRow
  o_redoRow : okA m.f_redoRow
  o_undoSum : okJ m.f_undoSum
  o_redoSum : okJ m.f_redoSum
  o_other : okA m.f_other
  o_otherSum : okJ m.f_otherSum
  o_pull : okA m.f_pull
  o_aimed : okA m.f_aimed
  o_distance : okA m.f_distance
  o_fitted : okA m.f_fitted
  o_sightEye : okA m.f_sightEye
  o_sightSeen : okZ m.f_sightSeen
  o_grain : okA m.f_grain
  o_ways : okA m.f_ways
  o_harder : okA m.f_harder
  o_grainSum : okJ m.f_grainSum
  o_curve : okJ m.f_curve
