theorem cs_g_seed_seed (s : CS) (v : Int32) : cs_seed (cs_set_seed s v) = v := rfl
theorem cs_g_seed_figs (s : CS) (v : Int32) : cs_seed (cs_set_figs s v) = cs_seed s := rfl
theorem cs_g_seed_psize (s : CS) (v : Int32) : cs_seed (cs_set_psize s v) = cs_seed s := rfl
theorem cs_g_seed_kinds (s : CS) (v : Nat → Int32) : cs_seed (cs_set_kinds s v) = cs_seed s := rfl
theorem cs_g_seed_srcs (s : CS) (v : Nat → Int32) : cs_seed (cs_set_srcs s v) = cs_seed s := rfl
theorem cs_g_seed_pts (s : CS) (v : Int32) : cs_seed (cs_set_pts s v) = cs_seed s := rfl
theorem cs_g_seed_known (s : CS) (v : Int32) : cs_seed (cs_set_known s v) = cs_seed s := rfl
theorem cs_g_seed_leads (s : CS) (v : Nat → Int32) : cs_seed (cs_set_leads s v) = cs_seed s := rfl
theorem cs_g_seed_areas (s : CS) (v : Nat → Int64) : cs_seed (cs_set_areas s v) = cs_seed s := rfl
theorem cs_g_seed_stand (s : CS) (v : Nat → Int32) : cs_seed (cs_set_stand s v) = cs_seed s := rfl
theorem cs_g_seed_dsize (s : CS) (v : Nat → Int32) : cs_seed (cs_set_dsize s v) = cs_seed s := rfl
theorem cs_g_seed_divr (s : CS) (v : Nat → Int64) : cs_seed (cs_set_divr s v) = cs_seed s := rfl
theorem cs_g_seed_invs (s : CS) (v : Nat → Int64) : cs_seed (cs_set_invs s v) = cs_seed s := rfl
theorem cs_g_seed_fx (s : CS) (v : Nat → Nat → Int32) : cs_seed (cs_set_fx s v) = cs_seed s := rfl
theorem cs_g_seed_fy (s : CS) (v : Nat → Nat → Int32) : cs_seed (cs_set_fy s v) = cs_seed s := rfl
theorem cs_g_seed_made (s : CS) (v : Nat → Int32) : cs_seed (cs_set_made s v) = cs_seed s := rfl
theorem cs_g_seed_fallen (s : CS) (v : Nat → Int32) : cs_seed (cs_set_fallen s v) = cs_seed s := rfl
theorem cs_g_seed_rnd (s : CS) (v : Nat → Int64) : cs_seed (cs_set_rnd s v) = cs_seed s := rfl
theorem cs_g_seed_foundX (s : CS) (v : Nat → Int32) : cs_seed (cs_set_foundX s v) = cs_seed s := rfl
theorem cs_g_seed_foundY (s : CS) (v : Nat → Int32) : cs_seed (cs_set_foundY s v) = cs_seed s := rfl
theorem cs_g_seed_items (s : CS) (v : Nat → Nat → Int32) : cs_seed (cs_set_items s v) = cs_seed s := rfl
theorem cs_g_seed_lsize (s : CS) (v : Nat → Int32) : cs_seed (cs_set_lsize s v) = cs_seed s := rfl
theorem cs_g_figs_seed (s : CS) (v : Int32) : cs_figs (cs_set_seed s v) = cs_figs s := rfl
theorem cs_g_figs_figs (s : CS) (v : Int32) : cs_figs (cs_set_figs s v) = v := rfl
theorem cs_g_figs_psize (s : CS) (v : Int32) : cs_figs (cs_set_psize s v) = cs_figs s := rfl
theorem cs_g_figs_kinds (s : CS) (v : Nat → Int32) : cs_figs (cs_set_kinds s v) = cs_figs s := rfl
theorem cs_g_figs_srcs (s : CS) (v : Nat → Int32) : cs_figs (cs_set_srcs s v) = cs_figs s := rfl
theorem cs_g_figs_pts (s : CS) (v : Int32) : cs_figs (cs_set_pts s v) = cs_figs s := rfl
theorem cs_g_figs_known (s : CS) (v : Int32) : cs_figs (cs_set_known s v) = cs_figs s := rfl
theorem cs_g_figs_leads (s : CS) (v : Nat → Int32) : cs_figs (cs_set_leads s v) = cs_figs s := rfl
theorem cs_g_figs_areas (s : CS) (v : Nat → Int64) : cs_figs (cs_set_areas s v) = cs_figs s := rfl
theorem cs_g_figs_stand (s : CS) (v : Nat → Int32) : cs_figs (cs_set_stand s v) = cs_figs s := rfl
theorem cs_g_figs_dsize (s : CS) (v : Nat → Int32) : cs_figs (cs_set_dsize s v) = cs_figs s := rfl
theorem cs_g_figs_divr (s : CS) (v : Nat → Int64) : cs_figs (cs_set_divr s v) = cs_figs s := rfl
theorem cs_g_figs_invs (s : CS) (v : Nat → Int64) : cs_figs (cs_set_invs s v) = cs_figs s := rfl
theorem cs_g_figs_fx (s : CS) (v : Nat → Nat → Int32) : cs_figs (cs_set_fx s v) = cs_figs s := rfl
theorem cs_g_figs_fy (s : CS) (v : Nat → Nat → Int32) : cs_figs (cs_set_fy s v) = cs_figs s := rfl
theorem cs_g_figs_made (s : CS) (v : Nat → Int32) : cs_figs (cs_set_made s v) = cs_figs s := rfl
theorem cs_g_figs_fallen (s : CS) (v : Nat → Int32) : cs_figs (cs_set_fallen s v) = cs_figs s := rfl
theorem cs_g_figs_rnd (s : CS) (v : Nat → Int64) : cs_figs (cs_set_rnd s v) = cs_figs s := rfl
theorem cs_g_figs_foundX (s : CS) (v : Nat → Int32) : cs_figs (cs_set_foundX s v) = cs_figs s := rfl
theorem cs_g_figs_foundY (s : CS) (v : Nat → Int32) : cs_figs (cs_set_foundY s v) = cs_figs s := rfl
theorem cs_g_figs_items (s : CS) (v : Nat → Nat → Int32) : cs_figs (cs_set_items s v) = cs_figs s := rfl
theorem cs_g_figs_lsize (s : CS) (v : Nat → Int32) : cs_figs (cs_set_lsize s v) = cs_figs s := rfl
theorem cs_g_psize_seed (s : CS) (v : Int32) : cs_psize (cs_set_seed s v) = cs_psize s := rfl
theorem cs_g_psize_figs (s : CS) (v : Int32) : cs_psize (cs_set_figs s v) = cs_psize s := rfl
theorem cs_g_psize_psize (s : CS) (v : Int32) : cs_psize (cs_set_psize s v) = v := rfl
theorem cs_g_psize_kinds (s : CS) (v : Nat → Int32) : cs_psize (cs_set_kinds s v) = cs_psize s := rfl
theorem cs_g_psize_srcs (s : CS) (v : Nat → Int32) : cs_psize (cs_set_srcs s v) = cs_psize s := rfl
theorem cs_g_psize_pts (s : CS) (v : Int32) : cs_psize (cs_set_pts s v) = cs_psize s := rfl
theorem cs_g_psize_known (s : CS) (v : Int32) : cs_psize (cs_set_known s v) = cs_psize s := rfl
theorem cs_g_psize_leads (s : CS) (v : Nat → Int32) : cs_psize (cs_set_leads s v) = cs_psize s := rfl
theorem cs_g_psize_areas (s : CS) (v : Nat → Int64) : cs_psize (cs_set_areas s v) = cs_psize s := rfl
theorem cs_g_psize_stand (s : CS) (v : Nat → Int32) : cs_psize (cs_set_stand s v) = cs_psize s := rfl
theorem cs_g_psize_dsize (s : CS) (v : Nat → Int32) : cs_psize (cs_set_dsize s v) = cs_psize s := rfl
theorem cs_g_psize_divr (s : CS) (v : Nat → Int64) : cs_psize (cs_set_divr s v) = cs_psize s := rfl
theorem cs_g_psize_invs (s : CS) (v : Nat → Int64) : cs_psize (cs_set_invs s v) = cs_psize s := rfl
theorem cs_g_psize_fx (s : CS) (v : Nat → Nat → Int32) : cs_psize (cs_set_fx s v) = cs_psize s := rfl
theorem cs_g_psize_fy (s : CS) (v : Nat → Nat → Int32) : cs_psize (cs_set_fy s v) = cs_psize s := rfl
theorem cs_g_psize_made (s : CS) (v : Nat → Int32) : cs_psize (cs_set_made s v) = cs_psize s := rfl
theorem cs_g_psize_fallen (s : CS) (v : Nat → Int32) : cs_psize (cs_set_fallen s v) = cs_psize s := rfl
theorem cs_g_psize_rnd (s : CS) (v : Nat → Int64) : cs_psize (cs_set_rnd s v) = cs_psize s := rfl
theorem cs_g_psize_foundX (s : CS) (v : Nat → Int32) : cs_psize (cs_set_foundX s v) = cs_psize s := rfl
theorem cs_g_psize_foundY (s : CS) (v : Nat → Int32) : cs_psize (cs_set_foundY s v) = cs_psize s := rfl
theorem cs_g_psize_items (s : CS) (v : Nat → Nat → Int32) : cs_psize (cs_set_items s v) = cs_psize s := rfl
theorem cs_g_psize_lsize (s : CS) (v : Nat → Int32) : cs_psize (cs_set_lsize s v) = cs_psize s := rfl
theorem cs_g_kinds_seed (s : CS) (v : Int32) : cs_kinds (cs_set_seed s v) = cs_kinds s := rfl
theorem cs_g_kinds_figs (s : CS) (v : Int32) : cs_kinds (cs_set_figs s v) = cs_kinds s := rfl
theorem cs_g_kinds_psize (s : CS) (v : Int32) : cs_kinds (cs_set_psize s v) = cs_kinds s := rfl
theorem cs_g_kinds_kinds (s : CS) (v : Nat → Int32) : cs_kinds (cs_set_kinds s v) = v := rfl
theorem cs_g_kinds_srcs (s : CS) (v : Nat → Int32) : cs_kinds (cs_set_srcs s v) = cs_kinds s := rfl
theorem cs_g_kinds_pts (s : CS) (v : Int32) : cs_kinds (cs_set_pts s v) = cs_kinds s := rfl
theorem cs_g_kinds_known (s : CS) (v : Int32) : cs_kinds (cs_set_known s v) = cs_kinds s := rfl
theorem cs_g_kinds_leads (s : CS) (v : Nat → Int32) : cs_kinds (cs_set_leads s v) = cs_kinds s := rfl
theorem cs_g_kinds_areas (s : CS) (v : Nat → Int64) : cs_kinds (cs_set_areas s v) = cs_kinds s := rfl
theorem cs_g_kinds_stand (s : CS) (v : Nat → Int32) : cs_kinds (cs_set_stand s v) = cs_kinds s := rfl
theorem cs_g_kinds_dsize (s : CS) (v : Nat → Int32) : cs_kinds (cs_set_dsize s v) = cs_kinds s := rfl
theorem cs_g_kinds_divr (s : CS) (v : Nat → Int64) : cs_kinds (cs_set_divr s v) = cs_kinds s := rfl
theorem cs_g_kinds_invs (s : CS) (v : Nat → Int64) : cs_kinds (cs_set_invs s v) = cs_kinds s := rfl
theorem cs_g_kinds_fx (s : CS) (v : Nat → Nat → Int32) : cs_kinds (cs_set_fx s v) = cs_kinds s := rfl
theorem cs_g_kinds_fy (s : CS) (v : Nat → Nat → Int32) : cs_kinds (cs_set_fy s v) = cs_kinds s := rfl
theorem cs_g_kinds_made (s : CS) (v : Nat → Int32) : cs_kinds (cs_set_made s v) = cs_kinds s := rfl
theorem cs_g_kinds_fallen (s : CS) (v : Nat → Int32) : cs_kinds (cs_set_fallen s v) = cs_kinds s := rfl
theorem cs_g_kinds_rnd (s : CS) (v : Nat → Int64) : cs_kinds (cs_set_rnd s v) = cs_kinds s := rfl
theorem cs_g_kinds_foundX (s : CS) (v : Nat → Int32) : cs_kinds (cs_set_foundX s v) = cs_kinds s := rfl
theorem cs_g_kinds_foundY (s : CS) (v : Nat → Int32) : cs_kinds (cs_set_foundY s v) = cs_kinds s := rfl
theorem cs_g_kinds_items (s : CS) (v : Nat → Nat → Int32) : cs_kinds (cs_set_items s v) = cs_kinds s := rfl
theorem cs_g_kinds_lsize (s : CS) (v : Nat → Int32) : cs_kinds (cs_set_lsize s v) = cs_kinds s := rfl
theorem cs_g_srcs_seed (s : CS) (v : Int32) : cs_srcs (cs_set_seed s v) = cs_srcs s := rfl
theorem cs_g_srcs_figs (s : CS) (v : Int32) : cs_srcs (cs_set_figs s v) = cs_srcs s := rfl
theorem cs_g_srcs_psize (s : CS) (v : Int32) : cs_srcs (cs_set_psize s v) = cs_srcs s := rfl
theorem cs_g_srcs_kinds (s : CS) (v : Nat → Int32) : cs_srcs (cs_set_kinds s v) = cs_srcs s := rfl
theorem cs_g_srcs_srcs (s : CS) (v : Nat → Int32) : cs_srcs (cs_set_srcs s v) = v := rfl
theorem cs_g_srcs_pts (s : CS) (v : Int32) : cs_srcs (cs_set_pts s v) = cs_srcs s := rfl
theorem cs_g_srcs_known (s : CS) (v : Int32) : cs_srcs (cs_set_known s v) = cs_srcs s := rfl
theorem cs_g_srcs_leads (s : CS) (v : Nat → Int32) : cs_srcs (cs_set_leads s v) = cs_srcs s := rfl
theorem cs_g_srcs_areas (s : CS) (v : Nat → Int64) : cs_srcs (cs_set_areas s v) = cs_srcs s := rfl
theorem cs_g_srcs_stand (s : CS) (v : Nat → Int32) : cs_srcs (cs_set_stand s v) = cs_srcs s := rfl
theorem cs_g_srcs_dsize (s : CS) (v : Nat → Int32) : cs_srcs (cs_set_dsize s v) = cs_srcs s := rfl
theorem cs_g_srcs_divr (s : CS) (v : Nat → Int64) : cs_srcs (cs_set_divr s v) = cs_srcs s := rfl
theorem cs_g_srcs_invs (s : CS) (v : Nat → Int64) : cs_srcs (cs_set_invs s v) = cs_srcs s := rfl
theorem cs_g_srcs_fx (s : CS) (v : Nat → Nat → Int32) : cs_srcs (cs_set_fx s v) = cs_srcs s := rfl
theorem cs_g_srcs_fy (s : CS) (v : Nat → Nat → Int32) : cs_srcs (cs_set_fy s v) = cs_srcs s := rfl
theorem cs_g_srcs_made (s : CS) (v : Nat → Int32) : cs_srcs (cs_set_made s v) = cs_srcs s := rfl
theorem cs_g_srcs_fallen (s : CS) (v : Nat → Int32) : cs_srcs (cs_set_fallen s v) = cs_srcs s := rfl
theorem cs_g_srcs_rnd (s : CS) (v : Nat → Int64) : cs_srcs (cs_set_rnd s v) = cs_srcs s := rfl
theorem cs_g_srcs_foundX (s : CS) (v : Nat → Int32) : cs_srcs (cs_set_foundX s v) = cs_srcs s := rfl
theorem cs_g_srcs_foundY (s : CS) (v : Nat → Int32) : cs_srcs (cs_set_foundY s v) = cs_srcs s := rfl
theorem cs_g_srcs_items (s : CS) (v : Nat → Nat → Int32) : cs_srcs (cs_set_items s v) = cs_srcs s := rfl
theorem cs_g_srcs_lsize (s : CS) (v : Nat → Int32) : cs_srcs (cs_set_lsize s v) = cs_srcs s := rfl
theorem cs_g_pts_seed (s : CS) (v : Int32) : cs_pts (cs_set_seed s v) = cs_pts s := rfl
theorem cs_g_pts_figs (s : CS) (v : Int32) : cs_pts (cs_set_figs s v) = cs_pts s := rfl
theorem cs_g_pts_psize (s : CS) (v : Int32) : cs_pts (cs_set_psize s v) = cs_pts s := rfl
theorem cs_g_pts_kinds (s : CS) (v : Nat → Int32) : cs_pts (cs_set_kinds s v) = cs_pts s := rfl
theorem cs_g_pts_srcs (s : CS) (v : Nat → Int32) : cs_pts (cs_set_srcs s v) = cs_pts s := rfl
theorem cs_g_pts_pts (s : CS) (v : Int32) : cs_pts (cs_set_pts s v) = v := rfl
theorem cs_g_pts_known (s : CS) (v : Int32) : cs_pts (cs_set_known s v) = cs_pts s := rfl
theorem cs_g_pts_leads (s : CS) (v : Nat → Int32) : cs_pts (cs_set_leads s v) = cs_pts s := rfl
theorem cs_g_pts_areas (s : CS) (v : Nat → Int64) : cs_pts (cs_set_areas s v) = cs_pts s := rfl
theorem cs_g_pts_stand (s : CS) (v : Nat → Int32) : cs_pts (cs_set_stand s v) = cs_pts s := rfl
theorem cs_g_pts_dsize (s : CS) (v : Nat → Int32) : cs_pts (cs_set_dsize s v) = cs_pts s := rfl
theorem cs_g_pts_divr (s : CS) (v : Nat → Int64) : cs_pts (cs_set_divr s v) = cs_pts s := rfl
theorem cs_g_pts_invs (s : CS) (v : Nat → Int64) : cs_pts (cs_set_invs s v) = cs_pts s := rfl
theorem cs_g_pts_fx (s : CS) (v : Nat → Nat → Int32) : cs_pts (cs_set_fx s v) = cs_pts s := rfl
theorem cs_g_pts_fy (s : CS) (v : Nat → Nat → Int32) : cs_pts (cs_set_fy s v) = cs_pts s := rfl
theorem cs_g_pts_made (s : CS) (v : Nat → Int32) : cs_pts (cs_set_made s v) = cs_pts s := rfl
theorem cs_g_pts_fallen (s : CS) (v : Nat → Int32) : cs_pts (cs_set_fallen s v) = cs_pts s := rfl
theorem cs_g_pts_rnd (s : CS) (v : Nat → Int64) : cs_pts (cs_set_rnd s v) = cs_pts s := rfl
theorem cs_g_pts_foundX (s : CS) (v : Nat → Int32) : cs_pts (cs_set_foundX s v) = cs_pts s := rfl
theorem cs_g_pts_foundY (s : CS) (v : Nat → Int32) : cs_pts (cs_set_foundY s v) = cs_pts s := rfl
theorem cs_g_pts_items (s : CS) (v : Nat → Nat → Int32) : cs_pts (cs_set_items s v) = cs_pts s := rfl
theorem cs_g_pts_lsize (s : CS) (v : Nat → Int32) : cs_pts (cs_set_lsize s v) = cs_pts s := rfl
theorem cs_g_known_seed (s : CS) (v : Int32) : cs_known (cs_set_seed s v) = cs_known s := rfl
theorem cs_g_known_figs (s : CS) (v : Int32) : cs_known (cs_set_figs s v) = cs_known s := rfl
theorem cs_g_known_psize (s : CS) (v : Int32) : cs_known (cs_set_psize s v) = cs_known s := rfl
theorem cs_g_known_kinds (s : CS) (v : Nat → Int32) : cs_known (cs_set_kinds s v) = cs_known s := rfl
theorem cs_g_known_srcs (s : CS) (v : Nat → Int32) : cs_known (cs_set_srcs s v) = cs_known s := rfl
theorem cs_g_known_pts (s : CS) (v : Int32) : cs_known (cs_set_pts s v) = cs_known s := rfl
theorem cs_g_known_known (s : CS) (v : Int32) : cs_known (cs_set_known s v) = v := rfl
theorem cs_g_known_leads (s : CS) (v : Nat → Int32) : cs_known (cs_set_leads s v) = cs_known s := rfl
theorem cs_g_known_areas (s : CS) (v : Nat → Int64) : cs_known (cs_set_areas s v) = cs_known s := rfl
theorem cs_g_known_stand (s : CS) (v : Nat → Int32) : cs_known (cs_set_stand s v) = cs_known s := rfl
theorem cs_g_known_dsize (s : CS) (v : Nat → Int32) : cs_known (cs_set_dsize s v) = cs_known s := rfl
theorem cs_g_known_divr (s : CS) (v : Nat → Int64) : cs_known (cs_set_divr s v) = cs_known s := rfl
theorem cs_g_known_invs (s : CS) (v : Nat → Int64) : cs_known (cs_set_invs s v) = cs_known s := rfl
theorem cs_g_known_fx (s : CS) (v : Nat → Nat → Int32) : cs_known (cs_set_fx s v) = cs_known s := rfl
theorem cs_g_known_fy (s : CS) (v : Nat → Nat → Int32) : cs_known (cs_set_fy s v) = cs_known s := rfl
theorem cs_g_known_made (s : CS) (v : Nat → Int32) : cs_known (cs_set_made s v) = cs_known s := rfl
theorem cs_g_known_fallen (s : CS) (v : Nat → Int32) : cs_known (cs_set_fallen s v) = cs_known s := rfl
theorem cs_g_known_rnd (s : CS) (v : Nat → Int64) : cs_known (cs_set_rnd s v) = cs_known s := rfl
theorem cs_g_known_foundX (s : CS) (v : Nat → Int32) : cs_known (cs_set_foundX s v) = cs_known s := rfl
theorem cs_g_known_foundY (s : CS) (v : Nat → Int32) : cs_known (cs_set_foundY s v) = cs_known s := rfl
theorem cs_g_known_items (s : CS) (v : Nat → Nat → Int32) : cs_known (cs_set_items s v) = cs_known s := rfl
theorem cs_g_known_lsize (s : CS) (v : Nat → Int32) : cs_known (cs_set_lsize s v) = cs_known s := rfl
theorem cs_g_leads_seed (s : CS) (v : Int32) : cs_leads (cs_set_seed s v) = cs_leads s := rfl
theorem cs_g_leads_figs (s : CS) (v : Int32) : cs_leads (cs_set_figs s v) = cs_leads s := rfl
theorem cs_g_leads_psize (s : CS) (v : Int32) : cs_leads (cs_set_psize s v) = cs_leads s := rfl
theorem cs_g_leads_kinds (s : CS) (v : Nat → Int32) : cs_leads (cs_set_kinds s v) = cs_leads s := rfl
theorem cs_g_leads_srcs (s : CS) (v : Nat → Int32) : cs_leads (cs_set_srcs s v) = cs_leads s := rfl
theorem cs_g_leads_pts (s : CS) (v : Int32) : cs_leads (cs_set_pts s v) = cs_leads s := rfl
theorem cs_g_leads_known (s : CS) (v : Int32) : cs_leads (cs_set_known s v) = cs_leads s := rfl
theorem cs_g_leads_leads (s : CS) (v : Nat → Int32) : cs_leads (cs_set_leads s v) = v := rfl
theorem cs_g_leads_areas (s : CS) (v : Nat → Int64) : cs_leads (cs_set_areas s v) = cs_leads s := rfl
theorem cs_g_leads_stand (s : CS) (v : Nat → Int32) : cs_leads (cs_set_stand s v) = cs_leads s := rfl
theorem cs_g_leads_dsize (s : CS) (v : Nat → Int32) : cs_leads (cs_set_dsize s v) = cs_leads s := rfl
theorem cs_g_leads_divr (s : CS) (v : Nat → Int64) : cs_leads (cs_set_divr s v) = cs_leads s := rfl
theorem cs_g_leads_invs (s : CS) (v : Nat → Int64) : cs_leads (cs_set_invs s v) = cs_leads s := rfl
theorem cs_g_leads_fx (s : CS) (v : Nat → Nat → Int32) : cs_leads (cs_set_fx s v) = cs_leads s := rfl
theorem cs_g_leads_fy (s : CS) (v : Nat → Nat → Int32) : cs_leads (cs_set_fy s v) = cs_leads s := rfl
theorem cs_g_leads_made (s : CS) (v : Nat → Int32) : cs_leads (cs_set_made s v) = cs_leads s := rfl
theorem cs_g_leads_fallen (s : CS) (v : Nat → Int32) : cs_leads (cs_set_fallen s v) = cs_leads s := rfl
theorem cs_g_leads_rnd (s : CS) (v : Nat → Int64) : cs_leads (cs_set_rnd s v) = cs_leads s := rfl
theorem cs_g_leads_foundX (s : CS) (v : Nat → Int32) : cs_leads (cs_set_foundX s v) = cs_leads s := rfl
theorem cs_g_leads_foundY (s : CS) (v : Nat → Int32) : cs_leads (cs_set_foundY s v) = cs_leads s := rfl
theorem cs_g_leads_items (s : CS) (v : Nat → Nat → Int32) : cs_leads (cs_set_items s v) = cs_leads s := rfl
theorem cs_g_leads_lsize (s : CS) (v : Nat → Int32) : cs_leads (cs_set_lsize s v) = cs_leads s := rfl
theorem cs_g_areas_seed (s : CS) (v : Int32) : cs_areas (cs_set_seed s v) = cs_areas s := rfl
theorem cs_g_areas_figs (s : CS) (v : Int32) : cs_areas (cs_set_figs s v) = cs_areas s := rfl
theorem cs_g_areas_psize (s : CS) (v : Int32) : cs_areas (cs_set_psize s v) = cs_areas s := rfl
theorem cs_g_areas_kinds (s : CS) (v : Nat → Int32) : cs_areas (cs_set_kinds s v) = cs_areas s := rfl
theorem cs_g_areas_srcs (s : CS) (v : Nat → Int32) : cs_areas (cs_set_srcs s v) = cs_areas s := rfl
theorem cs_g_areas_pts (s : CS) (v : Int32) : cs_areas (cs_set_pts s v) = cs_areas s := rfl
theorem cs_g_areas_known (s : CS) (v : Int32) : cs_areas (cs_set_known s v) = cs_areas s := rfl
theorem cs_g_areas_leads (s : CS) (v : Nat → Int32) : cs_areas (cs_set_leads s v) = cs_areas s := rfl
theorem cs_g_areas_areas (s : CS) (v : Nat → Int64) : cs_areas (cs_set_areas s v) = v := rfl
theorem cs_g_areas_stand (s : CS) (v : Nat → Int32) : cs_areas (cs_set_stand s v) = cs_areas s := rfl
theorem cs_g_areas_dsize (s : CS) (v : Nat → Int32) : cs_areas (cs_set_dsize s v) = cs_areas s := rfl
theorem cs_g_areas_divr (s : CS) (v : Nat → Int64) : cs_areas (cs_set_divr s v) = cs_areas s := rfl
theorem cs_g_areas_invs (s : CS) (v : Nat → Int64) : cs_areas (cs_set_invs s v) = cs_areas s := rfl
theorem cs_g_areas_fx (s : CS) (v : Nat → Nat → Int32) : cs_areas (cs_set_fx s v) = cs_areas s := rfl
theorem cs_g_areas_fy (s : CS) (v : Nat → Nat → Int32) : cs_areas (cs_set_fy s v) = cs_areas s := rfl
theorem cs_g_areas_made (s : CS) (v : Nat → Int32) : cs_areas (cs_set_made s v) = cs_areas s := rfl
theorem cs_g_areas_fallen (s : CS) (v : Nat → Int32) : cs_areas (cs_set_fallen s v) = cs_areas s := rfl
theorem cs_g_areas_rnd (s : CS) (v : Nat → Int64) : cs_areas (cs_set_rnd s v) = cs_areas s := rfl
theorem cs_g_areas_foundX (s : CS) (v : Nat → Int32) : cs_areas (cs_set_foundX s v) = cs_areas s := rfl
theorem cs_g_areas_foundY (s : CS) (v : Nat → Int32) : cs_areas (cs_set_foundY s v) = cs_areas s := rfl
theorem cs_g_areas_items (s : CS) (v : Nat → Nat → Int32) : cs_areas (cs_set_items s v) = cs_areas s := rfl
theorem cs_g_areas_lsize (s : CS) (v : Nat → Int32) : cs_areas (cs_set_lsize s v) = cs_areas s := rfl
theorem cs_g_stand_seed (s : CS) (v : Int32) : cs_stand (cs_set_seed s v) = cs_stand s := rfl
theorem cs_g_stand_figs (s : CS) (v : Int32) : cs_stand (cs_set_figs s v) = cs_stand s := rfl
theorem cs_g_stand_psize (s : CS) (v : Int32) : cs_stand (cs_set_psize s v) = cs_stand s := rfl
theorem cs_g_stand_kinds (s : CS) (v : Nat → Int32) : cs_stand (cs_set_kinds s v) = cs_stand s := rfl
theorem cs_g_stand_srcs (s : CS) (v : Nat → Int32) : cs_stand (cs_set_srcs s v) = cs_stand s := rfl
theorem cs_g_stand_pts (s : CS) (v : Int32) : cs_stand (cs_set_pts s v) = cs_stand s := rfl
theorem cs_g_stand_known (s : CS) (v : Int32) : cs_stand (cs_set_known s v) = cs_stand s := rfl
theorem cs_g_stand_leads (s : CS) (v : Nat → Int32) : cs_stand (cs_set_leads s v) = cs_stand s := rfl
theorem cs_g_stand_areas (s : CS) (v : Nat → Int64) : cs_stand (cs_set_areas s v) = cs_stand s := rfl
theorem cs_g_stand_stand (s : CS) (v : Nat → Int32) : cs_stand (cs_set_stand s v) = v := rfl
theorem cs_g_stand_dsize (s : CS) (v : Nat → Int32) : cs_stand (cs_set_dsize s v) = cs_stand s := rfl
theorem cs_g_stand_divr (s : CS) (v : Nat → Int64) : cs_stand (cs_set_divr s v) = cs_stand s := rfl
theorem cs_g_stand_invs (s : CS) (v : Nat → Int64) : cs_stand (cs_set_invs s v) = cs_stand s := rfl
theorem cs_g_stand_fx (s : CS) (v : Nat → Nat → Int32) : cs_stand (cs_set_fx s v) = cs_stand s := rfl
theorem cs_g_stand_fy (s : CS) (v : Nat → Nat → Int32) : cs_stand (cs_set_fy s v) = cs_stand s := rfl
theorem cs_g_stand_made (s : CS) (v : Nat → Int32) : cs_stand (cs_set_made s v) = cs_stand s := rfl
theorem cs_g_stand_fallen (s : CS) (v : Nat → Int32) : cs_stand (cs_set_fallen s v) = cs_stand s := rfl
theorem cs_g_stand_rnd (s : CS) (v : Nat → Int64) : cs_stand (cs_set_rnd s v) = cs_stand s := rfl
theorem cs_g_stand_foundX (s : CS) (v : Nat → Int32) : cs_stand (cs_set_foundX s v) = cs_stand s := rfl
theorem cs_g_stand_foundY (s : CS) (v : Nat → Int32) : cs_stand (cs_set_foundY s v) = cs_stand s := rfl
theorem cs_g_stand_items (s : CS) (v : Nat → Nat → Int32) : cs_stand (cs_set_items s v) = cs_stand s := rfl
theorem cs_g_stand_lsize (s : CS) (v : Nat → Int32) : cs_stand (cs_set_lsize s v) = cs_stand s := rfl
theorem cs_g_dsize_seed (s : CS) (v : Int32) : cs_dsize (cs_set_seed s v) = cs_dsize s := rfl
theorem cs_g_dsize_figs (s : CS) (v : Int32) : cs_dsize (cs_set_figs s v) = cs_dsize s := rfl
theorem cs_g_dsize_psize (s : CS) (v : Int32) : cs_dsize (cs_set_psize s v) = cs_dsize s := rfl
theorem cs_g_dsize_kinds (s : CS) (v : Nat → Int32) : cs_dsize (cs_set_kinds s v) = cs_dsize s := rfl
theorem cs_g_dsize_srcs (s : CS) (v : Nat → Int32) : cs_dsize (cs_set_srcs s v) = cs_dsize s := rfl
theorem cs_g_dsize_pts (s : CS) (v : Int32) : cs_dsize (cs_set_pts s v) = cs_dsize s := rfl
theorem cs_g_dsize_known (s : CS) (v : Int32) : cs_dsize (cs_set_known s v) = cs_dsize s := rfl
theorem cs_g_dsize_leads (s : CS) (v : Nat → Int32) : cs_dsize (cs_set_leads s v) = cs_dsize s := rfl
theorem cs_g_dsize_areas (s : CS) (v : Nat → Int64) : cs_dsize (cs_set_areas s v) = cs_dsize s := rfl
theorem cs_g_dsize_stand (s : CS) (v : Nat → Int32) : cs_dsize (cs_set_stand s v) = cs_dsize s := rfl
theorem cs_g_dsize_dsize (s : CS) (v : Nat → Int32) : cs_dsize (cs_set_dsize s v) = v := rfl
theorem cs_g_dsize_divr (s : CS) (v : Nat → Int64) : cs_dsize (cs_set_divr s v) = cs_dsize s := rfl
theorem cs_g_dsize_invs (s : CS) (v : Nat → Int64) : cs_dsize (cs_set_invs s v) = cs_dsize s := rfl
theorem cs_g_dsize_fx (s : CS) (v : Nat → Nat → Int32) : cs_dsize (cs_set_fx s v) = cs_dsize s := rfl
theorem cs_g_dsize_fy (s : CS) (v : Nat → Nat → Int32) : cs_dsize (cs_set_fy s v) = cs_dsize s := rfl
theorem cs_g_dsize_made (s : CS) (v : Nat → Int32) : cs_dsize (cs_set_made s v) = cs_dsize s := rfl
theorem cs_g_dsize_fallen (s : CS) (v : Nat → Int32) : cs_dsize (cs_set_fallen s v) = cs_dsize s := rfl
theorem cs_g_dsize_rnd (s : CS) (v : Nat → Int64) : cs_dsize (cs_set_rnd s v) = cs_dsize s := rfl
theorem cs_g_dsize_foundX (s : CS) (v : Nat → Int32) : cs_dsize (cs_set_foundX s v) = cs_dsize s := rfl
theorem cs_g_dsize_foundY (s : CS) (v : Nat → Int32) : cs_dsize (cs_set_foundY s v) = cs_dsize s := rfl
theorem cs_g_dsize_items (s : CS) (v : Nat → Nat → Int32) : cs_dsize (cs_set_items s v) = cs_dsize s := rfl
theorem cs_g_dsize_lsize (s : CS) (v : Nat → Int32) : cs_dsize (cs_set_lsize s v) = cs_dsize s := rfl
theorem cs_g_divr_seed (s : CS) (v : Int32) : cs_divr (cs_set_seed s v) = cs_divr s := rfl
theorem cs_g_divr_figs (s : CS) (v : Int32) : cs_divr (cs_set_figs s v) = cs_divr s := rfl
theorem cs_g_divr_psize (s : CS) (v : Int32) : cs_divr (cs_set_psize s v) = cs_divr s := rfl
theorem cs_g_divr_kinds (s : CS) (v : Nat → Int32) : cs_divr (cs_set_kinds s v) = cs_divr s := rfl
theorem cs_g_divr_srcs (s : CS) (v : Nat → Int32) : cs_divr (cs_set_srcs s v) = cs_divr s := rfl
theorem cs_g_divr_pts (s : CS) (v : Int32) : cs_divr (cs_set_pts s v) = cs_divr s := rfl
theorem cs_g_divr_known (s : CS) (v : Int32) : cs_divr (cs_set_known s v) = cs_divr s := rfl
theorem cs_g_divr_leads (s : CS) (v : Nat → Int32) : cs_divr (cs_set_leads s v) = cs_divr s := rfl
theorem cs_g_divr_areas (s : CS) (v : Nat → Int64) : cs_divr (cs_set_areas s v) = cs_divr s := rfl
theorem cs_g_divr_stand (s : CS) (v : Nat → Int32) : cs_divr (cs_set_stand s v) = cs_divr s := rfl
theorem cs_g_divr_dsize (s : CS) (v : Nat → Int32) : cs_divr (cs_set_dsize s v) = cs_divr s := rfl
theorem cs_g_divr_divr (s : CS) (v : Nat → Int64) : cs_divr (cs_set_divr s v) = v := rfl
theorem cs_g_divr_invs (s : CS) (v : Nat → Int64) : cs_divr (cs_set_invs s v) = cs_divr s := rfl
theorem cs_g_divr_fx (s : CS) (v : Nat → Nat → Int32) : cs_divr (cs_set_fx s v) = cs_divr s := rfl
theorem cs_g_divr_fy (s : CS) (v : Nat → Nat → Int32) : cs_divr (cs_set_fy s v) = cs_divr s := rfl
theorem cs_g_divr_made (s : CS) (v : Nat → Int32) : cs_divr (cs_set_made s v) = cs_divr s := rfl
theorem cs_g_divr_fallen (s : CS) (v : Nat → Int32) : cs_divr (cs_set_fallen s v) = cs_divr s := rfl
theorem cs_g_divr_rnd (s : CS) (v : Nat → Int64) : cs_divr (cs_set_rnd s v) = cs_divr s := rfl
theorem cs_g_divr_foundX (s : CS) (v : Nat → Int32) : cs_divr (cs_set_foundX s v) = cs_divr s := rfl
theorem cs_g_divr_foundY (s : CS) (v : Nat → Int32) : cs_divr (cs_set_foundY s v) = cs_divr s := rfl
theorem cs_g_divr_items (s : CS) (v : Nat → Nat → Int32) : cs_divr (cs_set_items s v) = cs_divr s := rfl
theorem cs_g_divr_lsize (s : CS) (v : Nat → Int32) : cs_divr (cs_set_lsize s v) = cs_divr s := rfl
theorem cs_g_invs_seed (s : CS) (v : Int32) : cs_invs (cs_set_seed s v) = cs_invs s := rfl
theorem cs_g_invs_figs (s : CS) (v : Int32) : cs_invs (cs_set_figs s v) = cs_invs s := rfl
theorem cs_g_invs_psize (s : CS) (v : Int32) : cs_invs (cs_set_psize s v) = cs_invs s := rfl
theorem cs_g_invs_kinds (s : CS) (v : Nat → Int32) : cs_invs (cs_set_kinds s v) = cs_invs s := rfl
theorem cs_g_invs_srcs (s : CS) (v : Nat → Int32) : cs_invs (cs_set_srcs s v) = cs_invs s := rfl
theorem cs_g_invs_pts (s : CS) (v : Int32) : cs_invs (cs_set_pts s v) = cs_invs s := rfl
theorem cs_g_invs_known (s : CS) (v : Int32) : cs_invs (cs_set_known s v) = cs_invs s := rfl
theorem cs_g_invs_leads (s : CS) (v : Nat → Int32) : cs_invs (cs_set_leads s v) = cs_invs s := rfl
theorem cs_g_invs_areas (s : CS) (v : Nat → Int64) : cs_invs (cs_set_areas s v) = cs_invs s := rfl
theorem cs_g_invs_stand (s : CS) (v : Nat → Int32) : cs_invs (cs_set_stand s v) = cs_invs s := rfl
theorem cs_g_invs_dsize (s : CS) (v : Nat → Int32) : cs_invs (cs_set_dsize s v) = cs_invs s := rfl
theorem cs_g_invs_divr (s : CS) (v : Nat → Int64) : cs_invs (cs_set_divr s v) = cs_invs s := rfl
theorem cs_g_invs_invs (s : CS) (v : Nat → Int64) : cs_invs (cs_set_invs s v) = v := rfl
theorem cs_g_invs_fx (s : CS) (v : Nat → Nat → Int32) : cs_invs (cs_set_fx s v) = cs_invs s := rfl
theorem cs_g_invs_fy (s : CS) (v : Nat → Nat → Int32) : cs_invs (cs_set_fy s v) = cs_invs s := rfl
theorem cs_g_invs_made (s : CS) (v : Nat → Int32) : cs_invs (cs_set_made s v) = cs_invs s := rfl
theorem cs_g_invs_fallen (s : CS) (v : Nat → Int32) : cs_invs (cs_set_fallen s v) = cs_invs s := rfl
theorem cs_g_invs_rnd (s : CS) (v : Nat → Int64) : cs_invs (cs_set_rnd s v) = cs_invs s := rfl
theorem cs_g_invs_foundX (s : CS) (v : Nat → Int32) : cs_invs (cs_set_foundX s v) = cs_invs s := rfl
theorem cs_g_invs_foundY (s : CS) (v : Nat → Int32) : cs_invs (cs_set_foundY s v) = cs_invs s := rfl
theorem cs_g_invs_items (s : CS) (v : Nat → Nat → Int32) : cs_invs (cs_set_items s v) = cs_invs s := rfl
theorem cs_g_invs_lsize (s : CS) (v : Nat → Int32) : cs_invs (cs_set_lsize s v) = cs_invs s := rfl
theorem cs_g_fx_seed (s : CS) (v : Int32) : cs_fx (cs_set_seed s v) = cs_fx s := rfl
theorem cs_g_fx_figs (s : CS) (v : Int32) : cs_fx (cs_set_figs s v) = cs_fx s := rfl
theorem cs_g_fx_psize (s : CS) (v : Int32) : cs_fx (cs_set_psize s v) = cs_fx s := rfl
theorem cs_g_fx_kinds (s : CS) (v : Nat → Int32) : cs_fx (cs_set_kinds s v) = cs_fx s := rfl
theorem cs_g_fx_srcs (s : CS) (v : Nat → Int32) : cs_fx (cs_set_srcs s v) = cs_fx s := rfl
theorem cs_g_fx_pts (s : CS) (v : Int32) : cs_fx (cs_set_pts s v) = cs_fx s := rfl
theorem cs_g_fx_known (s : CS) (v : Int32) : cs_fx (cs_set_known s v) = cs_fx s := rfl
theorem cs_g_fx_leads (s : CS) (v : Nat → Int32) : cs_fx (cs_set_leads s v) = cs_fx s := rfl
theorem cs_g_fx_areas (s : CS) (v : Nat → Int64) : cs_fx (cs_set_areas s v) = cs_fx s := rfl
theorem cs_g_fx_stand (s : CS) (v : Nat → Int32) : cs_fx (cs_set_stand s v) = cs_fx s := rfl
theorem cs_g_fx_dsize (s : CS) (v : Nat → Int32) : cs_fx (cs_set_dsize s v) = cs_fx s := rfl
theorem cs_g_fx_divr (s : CS) (v : Nat → Int64) : cs_fx (cs_set_divr s v) = cs_fx s := rfl
theorem cs_g_fx_invs (s : CS) (v : Nat → Int64) : cs_fx (cs_set_invs s v) = cs_fx s := rfl
theorem cs_g_fx_fx (s : CS) (v : Nat → Nat → Int32) : cs_fx (cs_set_fx s v) = v := rfl
theorem cs_g_fx_fy (s : CS) (v : Nat → Nat → Int32) : cs_fx (cs_set_fy s v) = cs_fx s := rfl
theorem cs_g_fx_made (s : CS) (v : Nat → Int32) : cs_fx (cs_set_made s v) = cs_fx s := rfl
theorem cs_g_fx_fallen (s : CS) (v : Nat → Int32) : cs_fx (cs_set_fallen s v) = cs_fx s := rfl
theorem cs_g_fx_rnd (s : CS) (v : Nat → Int64) : cs_fx (cs_set_rnd s v) = cs_fx s := rfl
theorem cs_g_fx_foundX (s : CS) (v : Nat → Int32) : cs_fx (cs_set_foundX s v) = cs_fx s := rfl
theorem cs_g_fx_foundY (s : CS) (v : Nat → Int32) : cs_fx (cs_set_foundY s v) = cs_fx s := rfl
theorem cs_g_fx_items (s : CS) (v : Nat → Nat → Int32) : cs_fx (cs_set_items s v) = cs_fx s := rfl
theorem cs_g_fx_lsize (s : CS) (v : Nat → Int32) : cs_fx (cs_set_lsize s v) = cs_fx s := rfl
theorem cs_g_fy_seed (s : CS) (v : Int32) : cs_fy (cs_set_seed s v) = cs_fy s := rfl
theorem cs_g_fy_figs (s : CS) (v : Int32) : cs_fy (cs_set_figs s v) = cs_fy s := rfl
theorem cs_g_fy_psize (s : CS) (v : Int32) : cs_fy (cs_set_psize s v) = cs_fy s := rfl
theorem cs_g_fy_kinds (s : CS) (v : Nat → Int32) : cs_fy (cs_set_kinds s v) = cs_fy s := rfl
theorem cs_g_fy_srcs (s : CS) (v : Nat → Int32) : cs_fy (cs_set_srcs s v) = cs_fy s := rfl
theorem cs_g_fy_pts (s : CS) (v : Int32) : cs_fy (cs_set_pts s v) = cs_fy s := rfl
theorem cs_g_fy_known (s : CS) (v : Int32) : cs_fy (cs_set_known s v) = cs_fy s := rfl
theorem cs_g_fy_leads (s : CS) (v : Nat → Int32) : cs_fy (cs_set_leads s v) = cs_fy s := rfl
theorem cs_g_fy_areas (s : CS) (v : Nat → Int64) : cs_fy (cs_set_areas s v) = cs_fy s := rfl
theorem cs_g_fy_stand (s : CS) (v : Nat → Int32) : cs_fy (cs_set_stand s v) = cs_fy s := rfl
theorem cs_g_fy_dsize (s : CS) (v : Nat → Int32) : cs_fy (cs_set_dsize s v) = cs_fy s := rfl
theorem cs_g_fy_divr (s : CS) (v : Nat → Int64) : cs_fy (cs_set_divr s v) = cs_fy s := rfl
theorem cs_g_fy_invs (s : CS) (v : Nat → Int64) : cs_fy (cs_set_invs s v) = cs_fy s := rfl
theorem cs_g_fy_fx (s : CS) (v : Nat → Nat → Int32) : cs_fy (cs_set_fx s v) = cs_fy s := rfl
theorem cs_g_fy_fy (s : CS) (v : Nat → Nat → Int32) : cs_fy (cs_set_fy s v) = v := rfl
theorem cs_g_fy_made (s : CS) (v : Nat → Int32) : cs_fy (cs_set_made s v) = cs_fy s := rfl
theorem cs_g_fy_fallen (s : CS) (v : Nat → Int32) : cs_fy (cs_set_fallen s v) = cs_fy s := rfl
theorem cs_g_fy_rnd (s : CS) (v : Nat → Int64) : cs_fy (cs_set_rnd s v) = cs_fy s := rfl
theorem cs_g_fy_foundX (s : CS) (v : Nat → Int32) : cs_fy (cs_set_foundX s v) = cs_fy s := rfl
theorem cs_g_fy_foundY (s : CS) (v : Nat → Int32) : cs_fy (cs_set_foundY s v) = cs_fy s := rfl
theorem cs_g_fy_items (s : CS) (v : Nat → Nat → Int32) : cs_fy (cs_set_items s v) = cs_fy s := rfl
theorem cs_g_fy_lsize (s : CS) (v : Nat → Int32) : cs_fy (cs_set_lsize s v) = cs_fy s := rfl
theorem cs_g_made_seed (s : CS) (v : Int32) : cs_made (cs_set_seed s v) = cs_made s := rfl
theorem cs_g_made_figs (s : CS) (v : Int32) : cs_made (cs_set_figs s v) = cs_made s := rfl
theorem cs_g_made_psize (s : CS) (v : Int32) : cs_made (cs_set_psize s v) = cs_made s := rfl
theorem cs_g_made_kinds (s : CS) (v : Nat → Int32) : cs_made (cs_set_kinds s v) = cs_made s := rfl
theorem cs_g_made_srcs (s : CS) (v : Nat → Int32) : cs_made (cs_set_srcs s v) = cs_made s := rfl
theorem cs_g_made_pts (s : CS) (v : Int32) : cs_made (cs_set_pts s v) = cs_made s := rfl
theorem cs_g_made_known (s : CS) (v : Int32) : cs_made (cs_set_known s v) = cs_made s := rfl
theorem cs_g_made_leads (s : CS) (v : Nat → Int32) : cs_made (cs_set_leads s v) = cs_made s := rfl
theorem cs_g_made_areas (s : CS) (v : Nat → Int64) : cs_made (cs_set_areas s v) = cs_made s := rfl
theorem cs_g_made_stand (s : CS) (v : Nat → Int32) : cs_made (cs_set_stand s v) = cs_made s := rfl
theorem cs_g_made_dsize (s : CS) (v : Nat → Int32) : cs_made (cs_set_dsize s v) = cs_made s := rfl
theorem cs_g_made_divr (s : CS) (v : Nat → Int64) : cs_made (cs_set_divr s v) = cs_made s := rfl
theorem cs_g_made_invs (s : CS) (v : Nat → Int64) : cs_made (cs_set_invs s v) = cs_made s := rfl
theorem cs_g_made_fx (s : CS) (v : Nat → Nat → Int32) : cs_made (cs_set_fx s v) = cs_made s := rfl
theorem cs_g_made_fy (s : CS) (v : Nat → Nat → Int32) : cs_made (cs_set_fy s v) = cs_made s := rfl
theorem cs_g_made_made (s : CS) (v : Nat → Int32) : cs_made (cs_set_made s v) = v := rfl
theorem cs_g_made_fallen (s : CS) (v : Nat → Int32) : cs_made (cs_set_fallen s v) = cs_made s := rfl
theorem cs_g_made_rnd (s : CS) (v : Nat → Int64) : cs_made (cs_set_rnd s v) = cs_made s := rfl
theorem cs_g_made_foundX (s : CS) (v : Nat → Int32) : cs_made (cs_set_foundX s v) = cs_made s := rfl
theorem cs_g_made_foundY (s : CS) (v : Nat → Int32) : cs_made (cs_set_foundY s v) = cs_made s := rfl
theorem cs_g_made_items (s : CS) (v : Nat → Nat → Int32) : cs_made (cs_set_items s v) = cs_made s := rfl
theorem cs_g_made_lsize (s : CS) (v : Nat → Int32) : cs_made (cs_set_lsize s v) = cs_made s := rfl
theorem cs_g_fallen_seed (s : CS) (v : Int32) : cs_fallen (cs_set_seed s v) = cs_fallen s := rfl
theorem cs_g_fallen_figs (s : CS) (v : Int32) : cs_fallen (cs_set_figs s v) = cs_fallen s := rfl
theorem cs_g_fallen_psize (s : CS) (v : Int32) : cs_fallen (cs_set_psize s v) = cs_fallen s := rfl
theorem cs_g_fallen_kinds (s : CS) (v : Nat → Int32) : cs_fallen (cs_set_kinds s v) = cs_fallen s := rfl
theorem cs_g_fallen_srcs (s : CS) (v : Nat → Int32) : cs_fallen (cs_set_srcs s v) = cs_fallen s := rfl
theorem cs_g_fallen_pts (s : CS) (v : Int32) : cs_fallen (cs_set_pts s v) = cs_fallen s := rfl
theorem cs_g_fallen_known (s : CS) (v : Int32) : cs_fallen (cs_set_known s v) = cs_fallen s := rfl
theorem cs_g_fallen_leads (s : CS) (v : Nat → Int32) : cs_fallen (cs_set_leads s v) = cs_fallen s := rfl
theorem cs_g_fallen_areas (s : CS) (v : Nat → Int64) : cs_fallen (cs_set_areas s v) = cs_fallen s := rfl
theorem cs_g_fallen_stand (s : CS) (v : Nat → Int32) : cs_fallen (cs_set_stand s v) = cs_fallen s := rfl
theorem cs_g_fallen_dsize (s : CS) (v : Nat → Int32) : cs_fallen (cs_set_dsize s v) = cs_fallen s := rfl
theorem cs_g_fallen_divr (s : CS) (v : Nat → Int64) : cs_fallen (cs_set_divr s v) = cs_fallen s := rfl
theorem cs_g_fallen_invs (s : CS) (v : Nat → Int64) : cs_fallen (cs_set_invs s v) = cs_fallen s := rfl
theorem cs_g_fallen_fx (s : CS) (v : Nat → Nat → Int32) : cs_fallen (cs_set_fx s v) = cs_fallen s := rfl
theorem cs_g_fallen_fy (s : CS) (v : Nat → Nat → Int32) : cs_fallen (cs_set_fy s v) = cs_fallen s := rfl
theorem cs_g_fallen_made (s : CS) (v : Nat → Int32) : cs_fallen (cs_set_made s v) = cs_fallen s := rfl
theorem cs_g_fallen_fallen (s : CS) (v : Nat → Int32) : cs_fallen (cs_set_fallen s v) = v := rfl
theorem cs_g_fallen_rnd (s : CS) (v : Nat → Int64) : cs_fallen (cs_set_rnd s v) = cs_fallen s := rfl
theorem cs_g_fallen_foundX (s : CS) (v : Nat → Int32) : cs_fallen (cs_set_foundX s v) = cs_fallen s := rfl
theorem cs_g_fallen_foundY (s : CS) (v : Nat → Int32) : cs_fallen (cs_set_foundY s v) = cs_fallen s := rfl
theorem cs_g_fallen_items (s : CS) (v : Nat → Nat → Int32) : cs_fallen (cs_set_items s v) = cs_fallen s := rfl
theorem cs_g_fallen_lsize (s : CS) (v : Nat → Int32) : cs_fallen (cs_set_lsize s v) = cs_fallen s := rfl
theorem cs_g_rnd_seed (s : CS) (v : Int32) : cs_rnd (cs_set_seed s v) = cs_rnd s := rfl
theorem cs_g_rnd_figs (s : CS) (v : Int32) : cs_rnd (cs_set_figs s v) = cs_rnd s := rfl
theorem cs_g_rnd_psize (s : CS) (v : Int32) : cs_rnd (cs_set_psize s v) = cs_rnd s := rfl
theorem cs_g_rnd_kinds (s : CS) (v : Nat → Int32) : cs_rnd (cs_set_kinds s v) = cs_rnd s := rfl
theorem cs_g_rnd_srcs (s : CS) (v : Nat → Int32) : cs_rnd (cs_set_srcs s v) = cs_rnd s := rfl
theorem cs_g_rnd_pts (s : CS) (v : Int32) : cs_rnd (cs_set_pts s v) = cs_rnd s := rfl
theorem cs_g_rnd_known (s : CS) (v : Int32) : cs_rnd (cs_set_known s v) = cs_rnd s := rfl
theorem cs_g_rnd_leads (s : CS) (v : Nat → Int32) : cs_rnd (cs_set_leads s v) = cs_rnd s := rfl
theorem cs_g_rnd_areas (s : CS) (v : Nat → Int64) : cs_rnd (cs_set_areas s v) = cs_rnd s := rfl
theorem cs_g_rnd_stand (s : CS) (v : Nat → Int32) : cs_rnd (cs_set_stand s v) = cs_rnd s := rfl
theorem cs_g_rnd_dsize (s : CS) (v : Nat → Int32) : cs_rnd (cs_set_dsize s v) = cs_rnd s := rfl
theorem cs_g_rnd_divr (s : CS) (v : Nat → Int64) : cs_rnd (cs_set_divr s v) = cs_rnd s := rfl
theorem cs_g_rnd_invs (s : CS) (v : Nat → Int64) : cs_rnd (cs_set_invs s v) = cs_rnd s := rfl
theorem cs_g_rnd_fx (s : CS) (v : Nat → Nat → Int32) : cs_rnd (cs_set_fx s v) = cs_rnd s := rfl
theorem cs_g_rnd_fy (s : CS) (v : Nat → Nat → Int32) : cs_rnd (cs_set_fy s v) = cs_rnd s := rfl
theorem cs_g_rnd_made (s : CS) (v : Nat → Int32) : cs_rnd (cs_set_made s v) = cs_rnd s := rfl
theorem cs_g_rnd_fallen (s : CS) (v : Nat → Int32) : cs_rnd (cs_set_fallen s v) = cs_rnd s := rfl
theorem cs_g_rnd_rnd (s : CS) (v : Nat → Int64) : cs_rnd (cs_set_rnd s v) = v := rfl
theorem cs_g_rnd_foundX (s : CS) (v : Nat → Int32) : cs_rnd (cs_set_foundX s v) = cs_rnd s := rfl
theorem cs_g_rnd_foundY (s : CS) (v : Nat → Int32) : cs_rnd (cs_set_foundY s v) = cs_rnd s := rfl
theorem cs_g_rnd_items (s : CS) (v : Nat → Nat → Int32) : cs_rnd (cs_set_items s v) = cs_rnd s := rfl
theorem cs_g_rnd_lsize (s : CS) (v : Nat → Int32) : cs_rnd (cs_set_lsize s v) = cs_rnd s := rfl
theorem cs_g_foundX_seed (s : CS) (v : Int32) : cs_foundX (cs_set_seed s v) = cs_foundX s := rfl
theorem cs_g_foundX_figs (s : CS) (v : Int32) : cs_foundX (cs_set_figs s v) = cs_foundX s := rfl
theorem cs_g_foundX_psize (s : CS) (v : Int32) : cs_foundX (cs_set_psize s v) = cs_foundX s := rfl
theorem cs_g_foundX_kinds (s : CS) (v : Nat → Int32) : cs_foundX (cs_set_kinds s v) = cs_foundX s := rfl
theorem cs_g_foundX_srcs (s : CS) (v : Nat → Int32) : cs_foundX (cs_set_srcs s v) = cs_foundX s := rfl
theorem cs_g_foundX_pts (s : CS) (v : Int32) : cs_foundX (cs_set_pts s v) = cs_foundX s := rfl
theorem cs_g_foundX_known (s : CS) (v : Int32) : cs_foundX (cs_set_known s v) = cs_foundX s := rfl
theorem cs_g_foundX_leads (s : CS) (v : Nat → Int32) : cs_foundX (cs_set_leads s v) = cs_foundX s := rfl
theorem cs_g_foundX_areas (s : CS) (v : Nat → Int64) : cs_foundX (cs_set_areas s v) = cs_foundX s := rfl
theorem cs_g_foundX_stand (s : CS) (v : Nat → Int32) : cs_foundX (cs_set_stand s v) = cs_foundX s := rfl
theorem cs_g_foundX_dsize (s : CS) (v : Nat → Int32) : cs_foundX (cs_set_dsize s v) = cs_foundX s := rfl
theorem cs_g_foundX_divr (s : CS) (v : Nat → Int64) : cs_foundX (cs_set_divr s v) = cs_foundX s := rfl
theorem cs_g_foundX_invs (s : CS) (v : Nat → Int64) : cs_foundX (cs_set_invs s v) = cs_foundX s := rfl
theorem cs_g_foundX_fx (s : CS) (v : Nat → Nat → Int32) : cs_foundX (cs_set_fx s v) = cs_foundX s := rfl
theorem cs_g_foundX_fy (s : CS) (v : Nat → Nat → Int32) : cs_foundX (cs_set_fy s v) = cs_foundX s := rfl
theorem cs_g_foundX_made (s : CS) (v : Nat → Int32) : cs_foundX (cs_set_made s v) = cs_foundX s := rfl
theorem cs_g_foundX_fallen (s : CS) (v : Nat → Int32) : cs_foundX (cs_set_fallen s v) = cs_foundX s := rfl
theorem cs_g_foundX_rnd (s : CS) (v : Nat → Int64) : cs_foundX (cs_set_rnd s v) = cs_foundX s := rfl
theorem cs_g_foundX_foundX (s : CS) (v : Nat → Int32) : cs_foundX (cs_set_foundX s v) = v := rfl
theorem cs_g_foundX_foundY (s : CS) (v : Nat → Int32) : cs_foundX (cs_set_foundY s v) = cs_foundX s := rfl
theorem cs_g_foundX_items (s : CS) (v : Nat → Nat → Int32) : cs_foundX (cs_set_items s v) = cs_foundX s := rfl
theorem cs_g_foundX_lsize (s : CS) (v : Nat → Int32) : cs_foundX (cs_set_lsize s v) = cs_foundX s := rfl
theorem cs_g_foundY_seed (s : CS) (v : Int32) : cs_foundY (cs_set_seed s v) = cs_foundY s := rfl
theorem cs_g_foundY_figs (s : CS) (v : Int32) : cs_foundY (cs_set_figs s v) = cs_foundY s := rfl
theorem cs_g_foundY_psize (s : CS) (v : Int32) : cs_foundY (cs_set_psize s v) = cs_foundY s := rfl
theorem cs_g_foundY_kinds (s : CS) (v : Nat → Int32) : cs_foundY (cs_set_kinds s v) = cs_foundY s := rfl
theorem cs_g_foundY_srcs (s : CS) (v : Nat → Int32) : cs_foundY (cs_set_srcs s v) = cs_foundY s := rfl
theorem cs_g_foundY_pts (s : CS) (v : Int32) : cs_foundY (cs_set_pts s v) = cs_foundY s := rfl
theorem cs_g_foundY_known (s : CS) (v : Int32) : cs_foundY (cs_set_known s v) = cs_foundY s := rfl
theorem cs_g_foundY_leads (s : CS) (v : Nat → Int32) : cs_foundY (cs_set_leads s v) = cs_foundY s := rfl
theorem cs_g_foundY_areas (s : CS) (v : Nat → Int64) : cs_foundY (cs_set_areas s v) = cs_foundY s := rfl
theorem cs_g_foundY_stand (s : CS) (v : Nat → Int32) : cs_foundY (cs_set_stand s v) = cs_foundY s := rfl
theorem cs_g_foundY_dsize (s : CS) (v : Nat → Int32) : cs_foundY (cs_set_dsize s v) = cs_foundY s := rfl
theorem cs_g_foundY_divr (s : CS) (v : Nat → Int64) : cs_foundY (cs_set_divr s v) = cs_foundY s := rfl
theorem cs_g_foundY_invs (s : CS) (v : Nat → Int64) : cs_foundY (cs_set_invs s v) = cs_foundY s := rfl
theorem cs_g_foundY_fx (s : CS) (v : Nat → Nat → Int32) : cs_foundY (cs_set_fx s v) = cs_foundY s := rfl
theorem cs_g_foundY_fy (s : CS) (v : Nat → Nat → Int32) : cs_foundY (cs_set_fy s v) = cs_foundY s := rfl
theorem cs_g_foundY_made (s : CS) (v : Nat → Int32) : cs_foundY (cs_set_made s v) = cs_foundY s := rfl
theorem cs_g_foundY_fallen (s : CS) (v : Nat → Int32) : cs_foundY (cs_set_fallen s v) = cs_foundY s := rfl
theorem cs_g_foundY_rnd (s : CS) (v : Nat → Int64) : cs_foundY (cs_set_rnd s v) = cs_foundY s := rfl
theorem cs_g_foundY_foundX (s : CS) (v : Nat → Int32) : cs_foundY (cs_set_foundX s v) = cs_foundY s := rfl
theorem cs_g_foundY_foundY (s : CS) (v : Nat → Int32) : cs_foundY (cs_set_foundY s v) = v := rfl
theorem cs_g_foundY_items (s : CS) (v : Nat → Nat → Int32) : cs_foundY (cs_set_items s v) = cs_foundY s := rfl
theorem cs_g_foundY_lsize (s : CS) (v : Nat → Int32) : cs_foundY (cs_set_lsize s v) = cs_foundY s := rfl
theorem cs_g_items_seed (s : CS) (v : Int32) : cs_items (cs_set_seed s v) = cs_items s := rfl
theorem cs_g_items_figs (s : CS) (v : Int32) : cs_items (cs_set_figs s v) = cs_items s := rfl
theorem cs_g_items_psize (s : CS) (v : Int32) : cs_items (cs_set_psize s v) = cs_items s := rfl
theorem cs_g_items_kinds (s : CS) (v : Nat → Int32) : cs_items (cs_set_kinds s v) = cs_items s := rfl
theorem cs_g_items_srcs (s : CS) (v : Nat → Int32) : cs_items (cs_set_srcs s v) = cs_items s := rfl
theorem cs_g_items_pts (s : CS) (v : Int32) : cs_items (cs_set_pts s v) = cs_items s := rfl
theorem cs_g_items_known (s : CS) (v : Int32) : cs_items (cs_set_known s v) = cs_items s := rfl
theorem cs_g_items_leads (s : CS) (v : Nat → Int32) : cs_items (cs_set_leads s v) = cs_items s := rfl
theorem cs_g_items_areas (s : CS) (v : Nat → Int64) : cs_items (cs_set_areas s v) = cs_items s := rfl
theorem cs_g_items_stand (s : CS) (v : Nat → Int32) : cs_items (cs_set_stand s v) = cs_items s := rfl
theorem cs_g_items_dsize (s : CS) (v : Nat → Int32) : cs_items (cs_set_dsize s v) = cs_items s := rfl
theorem cs_g_items_divr (s : CS) (v : Nat → Int64) : cs_items (cs_set_divr s v) = cs_items s := rfl
theorem cs_g_items_invs (s : CS) (v : Nat → Int64) : cs_items (cs_set_invs s v) = cs_items s := rfl
theorem cs_g_items_fx (s : CS) (v : Nat → Nat → Int32) : cs_items (cs_set_fx s v) = cs_items s := rfl
theorem cs_g_items_fy (s : CS) (v : Nat → Nat → Int32) : cs_items (cs_set_fy s v) = cs_items s := rfl
theorem cs_g_items_made (s : CS) (v : Nat → Int32) : cs_items (cs_set_made s v) = cs_items s := rfl
theorem cs_g_items_fallen (s : CS) (v : Nat → Int32) : cs_items (cs_set_fallen s v) = cs_items s := rfl
theorem cs_g_items_rnd (s : CS) (v : Nat → Int64) : cs_items (cs_set_rnd s v) = cs_items s := rfl
theorem cs_g_items_foundX (s : CS) (v : Nat → Int32) : cs_items (cs_set_foundX s v) = cs_items s := rfl
theorem cs_g_items_foundY (s : CS) (v : Nat → Int32) : cs_items (cs_set_foundY s v) = cs_items s := rfl
theorem cs_g_items_items (s : CS) (v : Nat → Nat → Int32) : cs_items (cs_set_items s v) = v := rfl
theorem cs_g_items_lsize (s : CS) (v : Nat → Int32) : cs_items (cs_set_lsize s v) = cs_items s := rfl
theorem cs_g_lsize_seed (s : CS) (v : Int32) : cs_lsize (cs_set_seed s v) = cs_lsize s := rfl
theorem cs_g_lsize_figs (s : CS) (v : Int32) : cs_lsize (cs_set_figs s v) = cs_lsize s := rfl
theorem cs_g_lsize_psize (s : CS) (v : Int32) : cs_lsize (cs_set_psize s v) = cs_lsize s := rfl
theorem cs_g_lsize_kinds (s : CS) (v : Nat → Int32) : cs_lsize (cs_set_kinds s v) = cs_lsize s := rfl
theorem cs_g_lsize_srcs (s : CS) (v : Nat → Int32) : cs_lsize (cs_set_srcs s v) = cs_lsize s := rfl
theorem cs_g_lsize_pts (s : CS) (v : Int32) : cs_lsize (cs_set_pts s v) = cs_lsize s := rfl
theorem cs_g_lsize_known (s : CS) (v : Int32) : cs_lsize (cs_set_known s v) = cs_lsize s := rfl
theorem cs_g_lsize_leads (s : CS) (v : Nat → Int32) : cs_lsize (cs_set_leads s v) = cs_lsize s := rfl
theorem cs_g_lsize_areas (s : CS) (v : Nat → Int64) : cs_lsize (cs_set_areas s v) = cs_lsize s := rfl
theorem cs_g_lsize_stand (s : CS) (v : Nat → Int32) : cs_lsize (cs_set_stand s v) = cs_lsize s := rfl
theorem cs_g_lsize_dsize (s : CS) (v : Nat → Int32) : cs_lsize (cs_set_dsize s v) = cs_lsize s := rfl
theorem cs_g_lsize_divr (s : CS) (v : Nat → Int64) : cs_lsize (cs_set_divr s v) = cs_lsize s := rfl
theorem cs_g_lsize_invs (s : CS) (v : Nat → Int64) : cs_lsize (cs_set_invs s v) = cs_lsize s := rfl
theorem cs_g_lsize_fx (s : CS) (v : Nat → Nat → Int32) : cs_lsize (cs_set_fx s v) = cs_lsize s := rfl
theorem cs_g_lsize_fy (s : CS) (v : Nat → Nat → Int32) : cs_lsize (cs_set_fy s v) = cs_lsize s := rfl
theorem cs_g_lsize_made (s : CS) (v : Nat → Int32) : cs_lsize (cs_set_made s v) = cs_lsize s := rfl
theorem cs_g_lsize_fallen (s : CS) (v : Nat → Int32) : cs_lsize (cs_set_fallen s v) = cs_lsize s := rfl
theorem cs_g_lsize_rnd (s : CS) (v : Nat → Int64) : cs_lsize (cs_set_rnd s v) = cs_lsize s := rfl
theorem cs_g_lsize_foundX (s : CS) (v : Nat → Int32) : cs_lsize (cs_set_foundX s v) = cs_lsize s := rfl
theorem cs_g_lsize_foundY (s : CS) (v : Nat → Int32) : cs_lsize (cs_set_foundY s v) = cs_lsize s := rfl
theorem cs_g_lsize_items (s : CS) (v : Nat → Nat → Int32) : cs_lsize (cs_set_items s v) = cs_lsize s := rfl
theorem cs_g_lsize_lsize (s : CS) (v : Nat → Int32) : cs_lsize (cs_set_lsize s v) = v := rfl
theorem cs_ext {s z : CS} (h0 : cs_seed s = cs_seed z) (h1 : cs_figs s = cs_figs z) (h2 : cs_psize s = cs_psize z) (h3 : cs_kinds s = cs_kinds z) (h4 : cs_srcs s = cs_srcs z) (h5 : cs_pts s = cs_pts z) (h6 : cs_known s = cs_known z) (h7 : cs_leads s = cs_leads z) (h8 : cs_areas s = cs_areas z) (h9 : cs_stand s = cs_stand z) (h10 : cs_dsize s = cs_dsize z) (h11 : cs_divr s = cs_divr z) (h12 : cs_invs s = cs_invs z) (h13 : cs_fx s = cs_fx z) (h14 : cs_fy s = cs_fy z) (h15 : cs_made s = cs_made z) (h16 : cs_fallen s = cs_fallen z) (h17 : cs_rnd s = cs_rnd z) (h18 : cs_foundX s = cs_foundX z) (h19 : cs_foundY s = cs_foundY z) (h20 : cs_items s = cs_items z) (h21 : cs_lsize s = cs_lsize z) : s = z := Prod.ext h0 (Prod.ext h1 (Prod.ext h2 (Prod.ext h3 (Prod.ext h4 (Prod.ext h5 (Prod.ext h6 (Prod.ext h7 (Prod.ext h8 (Prod.ext h9 (Prod.ext h10 (Prod.ext h11 (Prod.ext h12 (Prod.ext h13 (Prod.ext h14 (Prod.ext h15 (Prod.ext h16 (Prod.ext h17 (Prod.ext h18 (Prod.ext h19 (Prod.ext h20 (h21)))))))))))))))))))))
theorem ms_g_many_many (s : MS) (v : Int32) : ms_many (ms_set_many s v) = v := rfl
theorem ms_g_many_kindOf (s : MS) (v : Nat → Int32) : ms_many (ms_set_kindOf s v) = ms_many s := rfl
theorem ms_g_many_need (s : MS) (v : Nat → Int32) : ms_many (ms_set_need s v) = ms_many s := rfl
theorem ms_g_many_seed (s : MS) (v : Int32) : ms_many (ms_set_seed s v) = ms_many s := rfl
theorem ms_g_many_figs (s : MS) (v : Int32) : ms_many (ms_set_figs s v) = ms_many s := rfl
theorem ms_g_many_xs (s : MS) (v : Nat → Int64) : ms_many (ms_set_xs s v) = ms_many s := rfl
theorem ms_g_many_ys (s : MS) (v : Nat → Int64) : ms_many (ms_set_ys s v) = ms_many s := rfl
theorem ms_g_many_fallsAt (s : MS) (v : Nat → Int32) : ms_many (ms_set_fallsAt s v) = ms_many s := rfl
theorem ms_g_many_figure (s : MS) (v : Int32) : ms_many (ms_set_figure s v) = ms_many s := rfl
theorem ms_g_many_rnd (s : MS) (v : Int64) : ms_many (ms_set_rnd s v) = ms_many s := rfl
theorem ms_g_many_px (s : MS) (v : Int64) : ms_many (ms_set_px s v) = ms_many s := rfl
theorem ms_g_many_py (s : MS) (v : Int64) : ms_many (ms_set_py s v) = ms_many s := rfl
theorem ms_g_many_isFallen (s : MS) (v : Int32) : ms_many (ms_set_isFallen s v) = ms_many s := rfl
theorem ms_g_many_row (s : MS) (v : Nat → Int32) : ms_many (ms_set_row s v) = ms_many s := rfl
theorem ms_g_many_foundM (s : MS) (v : Int32) : ms_many (ms_set_foundM s v) = ms_many s := rfl
theorem ms_g_many_foundN (s : MS) (v : Int32) : ms_many (ms_set_foundN s v) = ms_many s := rfl
theorem ms_g_many_same (s : MS) (v : Nat → Int32) : ms_many (ms_set_same s v) = ms_many s := rfl
theorem ms_g_many_seen (s : MS) (v : Int32) : ms_many (ms_set_seen s v) = ms_many s := rfl
theorem ms_g_many_wanted (s : MS) (v : Int32) : ms_many (ms_set_wanted s v) = ms_many s := rfl
theorem ms_g_many_found (s : MS) (v : Nat → Int32) : ms_many (ms_set_found s v) = ms_many s := rfl
theorem ms_g_many_isFound (s : MS) (v : Int32) : ms_many (ms_set_isFound s v) = ms_many s := rfl
theorem ms_g_many_isSet (s : MS) (v : Nat → Int32) : ms_many (ms_set_isSet s v) = ms_many s := rfl
theorem ms_g_kindOf_many (s : MS) (v : Int32) : ms_kindOf (ms_set_many s v) = ms_kindOf s := rfl
theorem ms_g_kindOf_kindOf (s : MS) (v : Nat → Int32) : ms_kindOf (ms_set_kindOf s v) = v := rfl
theorem ms_g_kindOf_need (s : MS) (v : Nat → Int32) : ms_kindOf (ms_set_need s v) = ms_kindOf s := rfl
theorem ms_g_kindOf_seed (s : MS) (v : Int32) : ms_kindOf (ms_set_seed s v) = ms_kindOf s := rfl
theorem ms_g_kindOf_figs (s : MS) (v : Int32) : ms_kindOf (ms_set_figs s v) = ms_kindOf s := rfl
theorem ms_g_kindOf_xs (s : MS) (v : Nat → Int64) : ms_kindOf (ms_set_xs s v) = ms_kindOf s := rfl
theorem ms_g_kindOf_ys (s : MS) (v : Nat → Int64) : ms_kindOf (ms_set_ys s v) = ms_kindOf s := rfl
theorem ms_g_kindOf_fallsAt (s : MS) (v : Nat → Int32) : ms_kindOf (ms_set_fallsAt s v) = ms_kindOf s := rfl
theorem ms_g_kindOf_figure (s : MS) (v : Int32) : ms_kindOf (ms_set_figure s v) = ms_kindOf s := rfl
theorem ms_g_kindOf_rnd (s : MS) (v : Int64) : ms_kindOf (ms_set_rnd s v) = ms_kindOf s := rfl
theorem ms_g_kindOf_px (s : MS) (v : Int64) : ms_kindOf (ms_set_px s v) = ms_kindOf s := rfl
theorem ms_g_kindOf_py (s : MS) (v : Int64) : ms_kindOf (ms_set_py s v) = ms_kindOf s := rfl
theorem ms_g_kindOf_isFallen (s : MS) (v : Int32) : ms_kindOf (ms_set_isFallen s v) = ms_kindOf s := rfl
theorem ms_g_kindOf_row (s : MS) (v : Nat → Int32) : ms_kindOf (ms_set_row s v) = ms_kindOf s := rfl
theorem ms_g_kindOf_foundM (s : MS) (v : Int32) : ms_kindOf (ms_set_foundM s v) = ms_kindOf s := rfl
theorem ms_g_kindOf_foundN (s : MS) (v : Int32) : ms_kindOf (ms_set_foundN s v) = ms_kindOf s := rfl
theorem ms_g_kindOf_same (s : MS) (v : Nat → Int32) : ms_kindOf (ms_set_same s v) = ms_kindOf s := rfl
theorem ms_g_kindOf_seen (s : MS) (v : Int32) : ms_kindOf (ms_set_seen s v) = ms_kindOf s := rfl
theorem ms_g_kindOf_wanted (s : MS) (v : Int32) : ms_kindOf (ms_set_wanted s v) = ms_kindOf s := rfl
theorem ms_g_kindOf_found (s : MS) (v : Nat → Int32) : ms_kindOf (ms_set_found s v) = ms_kindOf s := rfl
theorem ms_g_kindOf_isFound (s : MS) (v : Int32) : ms_kindOf (ms_set_isFound s v) = ms_kindOf s := rfl
theorem ms_g_kindOf_isSet (s : MS) (v : Nat → Int32) : ms_kindOf (ms_set_isSet s v) = ms_kindOf s := rfl
theorem ms_g_need_many (s : MS) (v : Int32) : ms_need (ms_set_many s v) = ms_need s := rfl
theorem ms_g_need_kindOf (s : MS) (v : Nat → Int32) : ms_need (ms_set_kindOf s v) = ms_need s := rfl
theorem ms_g_need_need (s : MS) (v : Nat → Int32) : ms_need (ms_set_need s v) = v := rfl
theorem ms_g_need_seed (s : MS) (v : Int32) : ms_need (ms_set_seed s v) = ms_need s := rfl
theorem ms_g_need_figs (s : MS) (v : Int32) : ms_need (ms_set_figs s v) = ms_need s := rfl
theorem ms_g_need_xs (s : MS) (v : Nat → Int64) : ms_need (ms_set_xs s v) = ms_need s := rfl
theorem ms_g_need_ys (s : MS) (v : Nat → Int64) : ms_need (ms_set_ys s v) = ms_need s := rfl
theorem ms_g_need_fallsAt (s : MS) (v : Nat → Int32) : ms_need (ms_set_fallsAt s v) = ms_need s := rfl
theorem ms_g_need_figure (s : MS) (v : Int32) : ms_need (ms_set_figure s v) = ms_need s := rfl
theorem ms_g_need_rnd (s : MS) (v : Int64) : ms_need (ms_set_rnd s v) = ms_need s := rfl
theorem ms_g_need_px (s : MS) (v : Int64) : ms_need (ms_set_px s v) = ms_need s := rfl
theorem ms_g_need_py (s : MS) (v : Int64) : ms_need (ms_set_py s v) = ms_need s := rfl
theorem ms_g_need_isFallen (s : MS) (v : Int32) : ms_need (ms_set_isFallen s v) = ms_need s := rfl
theorem ms_g_need_row (s : MS) (v : Nat → Int32) : ms_need (ms_set_row s v) = ms_need s := rfl
theorem ms_g_need_foundM (s : MS) (v : Int32) : ms_need (ms_set_foundM s v) = ms_need s := rfl
theorem ms_g_need_foundN (s : MS) (v : Int32) : ms_need (ms_set_foundN s v) = ms_need s := rfl
theorem ms_g_need_same (s : MS) (v : Nat → Int32) : ms_need (ms_set_same s v) = ms_need s := rfl
theorem ms_g_need_seen (s : MS) (v : Int32) : ms_need (ms_set_seen s v) = ms_need s := rfl
theorem ms_g_need_wanted (s : MS) (v : Int32) : ms_need (ms_set_wanted s v) = ms_need s := rfl
theorem ms_g_need_found (s : MS) (v : Nat → Int32) : ms_need (ms_set_found s v) = ms_need s := rfl
theorem ms_g_need_isFound (s : MS) (v : Int32) : ms_need (ms_set_isFound s v) = ms_need s := rfl
theorem ms_g_need_isSet (s : MS) (v : Nat → Int32) : ms_need (ms_set_isSet s v) = ms_need s := rfl
theorem ms_g_seed_many (s : MS) (v : Int32) : ms_seed (ms_set_many s v) = ms_seed s := rfl
theorem ms_g_seed_kindOf (s : MS) (v : Nat → Int32) : ms_seed (ms_set_kindOf s v) = ms_seed s := rfl
theorem ms_g_seed_need (s : MS) (v : Nat → Int32) : ms_seed (ms_set_need s v) = ms_seed s := rfl
theorem ms_g_seed_seed (s : MS) (v : Int32) : ms_seed (ms_set_seed s v) = v := rfl
theorem ms_g_seed_figs (s : MS) (v : Int32) : ms_seed (ms_set_figs s v) = ms_seed s := rfl
theorem ms_g_seed_xs (s : MS) (v : Nat → Int64) : ms_seed (ms_set_xs s v) = ms_seed s := rfl
theorem ms_g_seed_ys (s : MS) (v : Nat → Int64) : ms_seed (ms_set_ys s v) = ms_seed s := rfl
theorem ms_g_seed_fallsAt (s : MS) (v : Nat → Int32) : ms_seed (ms_set_fallsAt s v) = ms_seed s := rfl
theorem ms_g_seed_figure (s : MS) (v : Int32) : ms_seed (ms_set_figure s v) = ms_seed s := rfl
theorem ms_g_seed_rnd (s : MS) (v : Int64) : ms_seed (ms_set_rnd s v) = ms_seed s := rfl
theorem ms_g_seed_px (s : MS) (v : Int64) : ms_seed (ms_set_px s v) = ms_seed s := rfl
theorem ms_g_seed_py (s : MS) (v : Int64) : ms_seed (ms_set_py s v) = ms_seed s := rfl
theorem ms_g_seed_isFallen (s : MS) (v : Int32) : ms_seed (ms_set_isFallen s v) = ms_seed s := rfl
theorem ms_g_seed_row (s : MS) (v : Nat → Int32) : ms_seed (ms_set_row s v) = ms_seed s := rfl
theorem ms_g_seed_foundM (s : MS) (v : Int32) : ms_seed (ms_set_foundM s v) = ms_seed s := rfl
theorem ms_g_seed_foundN (s : MS) (v : Int32) : ms_seed (ms_set_foundN s v) = ms_seed s := rfl
theorem ms_g_seed_same (s : MS) (v : Nat → Int32) : ms_seed (ms_set_same s v) = ms_seed s := rfl
theorem ms_g_seed_seen (s : MS) (v : Int32) : ms_seed (ms_set_seen s v) = ms_seed s := rfl
theorem ms_g_seed_wanted (s : MS) (v : Int32) : ms_seed (ms_set_wanted s v) = ms_seed s := rfl
theorem ms_g_seed_found (s : MS) (v : Nat → Int32) : ms_seed (ms_set_found s v) = ms_seed s := rfl
theorem ms_g_seed_isFound (s : MS) (v : Int32) : ms_seed (ms_set_isFound s v) = ms_seed s := rfl
theorem ms_g_seed_isSet (s : MS) (v : Nat → Int32) : ms_seed (ms_set_isSet s v) = ms_seed s := rfl
theorem ms_g_figs_many (s : MS) (v : Int32) : ms_figs (ms_set_many s v) = ms_figs s := rfl
theorem ms_g_figs_kindOf (s : MS) (v : Nat → Int32) : ms_figs (ms_set_kindOf s v) = ms_figs s := rfl
theorem ms_g_figs_need (s : MS) (v : Nat → Int32) : ms_figs (ms_set_need s v) = ms_figs s := rfl
theorem ms_g_figs_seed (s : MS) (v : Int32) : ms_figs (ms_set_seed s v) = ms_figs s := rfl
theorem ms_g_figs_figs (s : MS) (v : Int32) : ms_figs (ms_set_figs s v) = v := rfl
theorem ms_g_figs_xs (s : MS) (v : Nat → Int64) : ms_figs (ms_set_xs s v) = ms_figs s := rfl
theorem ms_g_figs_ys (s : MS) (v : Nat → Int64) : ms_figs (ms_set_ys s v) = ms_figs s := rfl
theorem ms_g_figs_fallsAt (s : MS) (v : Nat → Int32) : ms_figs (ms_set_fallsAt s v) = ms_figs s := rfl
theorem ms_g_figs_figure (s : MS) (v : Int32) : ms_figs (ms_set_figure s v) = ms_figs s := rfl
theorem ms_g_figs_rnd (s : MS) (v : Int64) : ms_figs (ms_set_rnd s v) = ms_figs s := rfl
theorem ms_g_figs_px (s : MS) (v : Int64) : ms_figs (ms_set_px s v) = ms_figs s := rfl
theorem ms_g_figs_py (s : MS) (v : Int64) : ms_figs (ms_set_py s v) = ms_figs s := rfl
theorem ms_g_figs_isFallen (s : MS) (v : Int32) : ms_figs (ms_set_isFallen s v) = ms_figs s := rfl
theorem ms_g_figs_row (s : MS) (v : Nat → Int32) : ms_figs (ms_set_row s v) = ms_figs s := rfl
theorem ms_g_figs_foundM (s : MS) (v : Int32) : ms_figs (ms_set_foundM s v) = ms_figs s := rfl
theorem ms_g_figs_foundN (s : MS) (v : Int32) : ms_figs (ms_set_foundN s v) = ms_figs s := rfl
theorem ms_g_figs_same (s : MS) (v : Nat → Int32) : ms_figs (ms_set_same s v) = ms_figs s := rfl
theorem ms_g_figs_seen (s : MS) (v : Int32) : ms_figs (ms_set_seen s v) = ms_figs s := rfl
theorem ms_g_figs_wanted (s : MS) (v : Int32) : ms_figs (ms_set_wanted s v) = ms_figs s := rfl
theorem ms_g_figs_found (s : MS) (v : Nat → Int32) : ms_figs (ms_set_found s v) = ms_figs s := rfl
theorem ms_g_figs_isFound (s : MS) (v : Int32) : ms_figs (ms_set_isFound s v) = ms_figs s := rfl
theorem ms_g_figs_isSet (s : MS) (v : Nat → Int32) : ms_figs (ms_set_isSet s v) = ms_figs s := rfl
theorem ms_g_xs_many (s : MS) (v : Int32) : ms_xs (ms_set_many s v) = ms_xs s := rfl
theorem ms_g_xs_kindOf (s : MS) (v : Nat → Int32) : ms_xs (ms_set_kindOf s v) = ms_xs s := rfl
theorem ms_g_xs_need (s : MS) (v : Nat → Int32) : ms_xs (ms_set_need s v) = ms_xs s := rfl
theorem ms_g_xs_seed (s : MS) (v : Int32) : ms_xs (ms_set_seed s v) = ms_xs s := rfl
theorem ms_g_xs_figs (s : MS) (v : Int32) : ms_xs (ms_set_figs s v) = ms_xs s := rfl
theorem ms_g_xs_xs (s : MS) (v : Nat → Int64) : ms_xs (ms_set_xs s v) = v := rfl
theorem ms_g_xs_ys (s : MS) (v : Nat → Int64) : ms_xs (ms_set_ys s v) = ms_xs s := rfl
theorem ms_g_xs_fallsAt (s : MS) (v : Nat → Int32) : ms_xs (ms_set_fallsAt s v) = ms_xs s := rfl
theorem ms_g_xs_figure (s : MS) (v : Int32) : ms_xs (ms_set_figure s v) = ms_xs s := rfl
theorem ms_g_xs_rnd (s : MS) (v : Int64) : ms_xs (ms_set_rnd s v) = ms_xs s := rfl
theorem ms_g_xs_px (s : MS) (v : Int64) : ms_xs (ms_set_px s v) = ms_xs s := rfl
theorem ms_g_xs_py (s : MS) (v : Int64) : ms_xs (ms_set_py s v) = ms_xs s := rfl
theorem ms_g_xs_isFallen (s : MS) (v : Int32) : ms_xs (ms_set_isFallen s v) = ms_xs s := rfl
theorem ms_g_xs_row (s : MS) (v : Nat → Int32) : ms_xs (ms_set_row s v) = ms_xs s := rfl
theorem ms_g_xs_foundM (s : MS) (v : Int32) : ms_xs (ms_set_foundM s v) = ms_xs s := rfl
theorem ms_g_xs_foundN (s : MS) (v : Int32) : ms_xs (ms_set_foundN s v) = ms_xs s := rfl
theorem ms_g_xs_same (s : MS) (v : Nat → Int32) : ms_xs (ms_set_same s v) = ms_xs s := rfl
theorem ms_g_xs_seen (s : MS) (v : Int32) : ms_xs (ms_set_seen s v) = ms_xs s := rfl
theorem ms_g_xs_wanted (s : MS) (v : Int32) : ms_xs (ms_set_wanted s v) = ms_xs s := rfl
theorem ms_g_xs_found (s : MS) (v : Nat → Int32) : ms_xs (ms_set_found s v) = ms_xs s := rfl
theorem ms_g_xs_isFound (s : MS) (v : Int32) : ms_xs (ms_set_isFound s v) = ms_xs s := rfl
theorem ms_g_xs_isSet (s : MS) (v : Nat → Int32) : ms_xs (ms_set_isSet s v) = ms_xs s := rfl
theorem ms_g_ys_many (s : MS) (v : Int32) : ms_ys (ms_set_many s v) = ms_ys s := rfl
theorem ms_g_ys_kindOf (s : MS) (v : Nat → Int32) : ms_ys (ms_set_kindOf s v) = ms_ys s := rfl
theorem ms_g_ys_need (s : MS) (v : Nat → Int32) : ms_ys (ms_set_need s v) = ms_ys s := rfl
theorem ms_g_ys_seed (s : MS) (v : Int32) : ms_ys (ms_set_seed s v) = ms_ys s := rfl
theorem ms_g_ys_figs (s : MS) (v : Int32) : ms_ys (ms_set_figs s v) = ms_ys s := rfl
theorem ms_g_ys_xs (s : MS) (v : Nat → Int64) : ms_ys (ms_set_xs s v) = ms_ys s := rfl
theorem ms_g_ys_ys (s : MS) (v : Nat → Int64) : ms_ys (ms_set_ys s v) = v := rfl
theorem ms_g_ys_fallsAt (s : MS) (v : Nat → Int32) : ms_ys (ms_set_fallsAt s v) = ms_ys s := rfl
theorem ms_g_ys_figure (s : MS) (v : Int32) : ms_ys (ms_set_figure s v) = ms_ys s := rfl
theorem ms_g_ys_rnd (s : MS) (v : Int64) : ms_ys (ms_set_rnd s v) = ms_ys s := rfl
theorem ms_g_ys_px (s : MS) (v : Int64) : ms_ys (ms_set_px s v) = ms_ys s := rfl
theorem ms_g_ys_py (s : MS) (v : Int64) : ms_ys (ms_set_py s v) = ms_ys s := rfl
theorem ms_g_ys_isFallen (s : MS) (v : Int32) : ms_ys (ms_set_isFallen s v) = ms_ys s := rfl
theorem ms_g_ys_row (s : MS) (v : Nat → Int32) : ms_ys (ms_set_row s v) = ms_ys s := rfl
theorem ms_g_ys_foundM (s : MS) (v : Int32) : ms_ys (ms_set_foundM s v) = ms_ys s := rfl
theorem ms_g_ys_foundN (s : MS) (v : Int32) : ms_ys (ms_set_foundN s v) = ms_ys s := rfl
theorem ms_g_ys_same (s : MS) (v : Nat → Int32) : ms_ys (ms_set_same s v) = ms_ys s := rfl
theorem ms_g_ys_seen (s : MS) (v : Int32) : ms_ys (ms_set_seen s v) = ms_ys s := rfl
theorem ms_g_ys_wanted (s : MS) (v : Int32) : ms_ys (ms_set_wanted s v) = ms_ys s := rfl
theorem ms_g_ys_found (s : MS) (v : Nat → Int32) : ms_ys (ms_set_found s v) = ms_ys s := rfl
theorem ms_g_ys_isFound (s : MS) (v : Int32) : ms_ys (ms_set_isFound s v) = ms_ys s := rfl
theorem ms_g_ys_isSet (s : MS) (v : Nat → Int32) : ms_ys (ms_set_isSet s v) = ms_ys s := rfl
theorem ms_g_fallsAt_many (s : MS) (v : Int32) : ms_fallsAt (ms_set_many s v) = ms_fallsAt s := rfl
theorem ms_g_fallsAt_kindOf (s : MS) (v : Nat → Int32) : ms_fallsAt (ms_set_kindOf s v) = ms_fallsAt s := rfl
theorem ms_g_fallsAt_need (s : MS) (v : Nat → Int32) : ms_fallsAt (ms_set_need s v) = ms_fallsAt s := rfl
theorem ms_g_fallsAt_seed (s : MS) (v : Int32) : ms_fallsAt (ms_set_seed s v) = ms_fallsAt s := rfl
theorem ms_g_fallsAt_figs (s : MS) (v : Int32) : ms_fallsAt (ms_set_figs s v) = ms_fallsAt s := rfl
theorem ms_g_fallsAt_xs (s : MS) (v : Nat → Int64) : ms_fallsAt (ms_set_xs s v) = ms_fallsAt s := rfl
theorem ms_g_fallsAt_ys (s : MS) (v : Nat → Int64) : ms_fallsAt (ms_set_ys s v) = ms_fallsAt s := rfl
theorem ms_g_fallsAt_fallsAt (s : MS) (v : Nat → Int32) : ms_fallsAt (ms_set_fallsAt s v) = v := rfl
theorem ms_g_fallsAt_figure (s : MS) (v : Int32) : ms_fallsAt (ms_set_figure s v) = ms_fallsAt s := rfl
theorem ms_g_fallsAt_rnd (s : MS) (v : Int64) : ms_fallsAt (ms_set_rnd s v) = ms_fallsAt s := rfl
theorem ms_g_fallsAt_px (s : MS) (v : Int64) : ms_fallsAt (ms_set_px s v) = ms_fallsAt s := rfl
theorem ms_g_fallsAt_py (s : MS) (v : Int64) : ms_fallsAt (ms_set_py s v) = ms_fallsAt s := rfl
theorem ms_g_fallsAt_isFallen (s : MS) (v : Int32) : ms_fallsAt (ms_set_isFallen s v) = ms_fallsAt s := rfl
theorem ms_g_fallsAt_row (s : MS) (v : Nat → Int32) : ms_fallsAt (ms_set_row s v) = ms_fallsAt s := rfl
theorem ms_g_fallsAt_foundM (s : MS) (v : Int32) : ms_fallsAt (ms_set_foundM s v) = ms_fallsAt s := rfl
theorem ms_g_fallsAt_foundN (s : MS) (v : Int32) : ms_fallsAt (ms_set_foundN s v) = ms_fallsAt s := rfl
theorem ms_g_fallsAt_same (s : MS) (v : Nat → Int32) : ms_fallsAt (ms_set_same s v) = ms_fallsAt s := rfl
theorem ms_g_fallsAt_seen (s : MS) (v : Int32) : ms_fallsAt (ms_set_seen s v) = ms_fallsAt s := rfl
theorem ms_g_fallsAt_wanted (s : MS) (v : Int32) : ms_fallsAt (ms_set_wanted s v) = ms_fallsAt s := rfl
theorem ms_g_fallsAt_found (s : MS) (v : Nat → Int32) : ms_fallsAt (ms_set_found s v) = ms_fallsAt s := rfl
theorem ms_g_fallsAt_isFound (s : MS) (v : Int32) : ms_fallsAt (ms_set_isFound s v) = ms_fallsAt s := rfl
theorem ms_g_fallsAt_isSet (s : MS) (v : Nat → Int32) : ms_fallsAt (ms_set_isSet s v) = ms_fallsAt s := rfl
theorem ms_g_figure_many (s : MS) (v : Int32) : ms_figure (ms_set_many s v) = ms_figure s := rfl
theorem ms_g_figure_kindOf (s : MS) (v : Nat → Int32) : ms_figure (ms_set_kindOf s v) = ms_figure s := rfl
theorem ms_g_figure_need (s : MS) (v : Nat → Int32) : ms_figure (ms_set_need s v) = ms_figure s := rfl
theorem ms_g_figure_seed (s : MS) (v : Int32) : ms_figure (ms_set_seed s v) = ms_figure s := rfl
theorem ms_g_figure_figs (s : MS) (v : Int32) : ms_figure (ms_set_figs s v) = ms_figure s := rfl
theorem ms_g_figure_xs (s : MS) (v : Nat → Int64) : ms_figure (ms_set_xs s v) = ms_figure s := rfl
theorem ms_g_figure_ys (s : MS) (v : Nat → Int64) : ms_figure (ms_set_ys s v) = ms_figure s := rfl
theorem ms_g_figure_fallsAt (s : MS) (v : Nat → Int32) : ms_figure (ms_set_fallsAt s v) = ms_figure s := rfl
theorem ms_g_figure_figure (s : MS) (v : Int32) : ms_figure (ms_set_figure s v) = v := rfl
theorem ms_g_figure_rnd (s : MS) (v : Int64) : ms_figure (ms_set_rnd s v) = ms_figure s := rfl
theorem ms_g_figure_px (s : MS) (v : Int64) : ms_figure (ms_set_px s v) = ms_figure s := rfl
theorem ms_g_figure_py (s : MS) (v : Int64) : ms_figure (ms_set_py s v) = ms_figure s := rfl
theorem ms_g_figure_isFallen (s : MS) (v : Int32) : ms_figure (ms_set_isFallen s v) = ms_figure s := rfl
theorem ms_g_figure_row (s : MS) (v : Nat → Int32) : ms_figure (ms_set_row s v) = ms_figure s := rfl
theorem ms_g_figure_foundM (s : MS) (v : Int32) : ms_figure (ms_set_foundM s v) = ms_figure s := rfl
theorem ms_g_figure_foundN (s : MS) (v : Int32) : ms_figure (ms_set_foundN s v) = ms_figure s := rfl
theorem ms_g_figure_same (s : MS) (v : Nat → Int32) : ms_figure (ms_set_same s v) = ms_figure s := rfl
theorem ms_g_figure_seen (s : MS) (v : Int32) : ms_figure (ms_set_seen s v) = ms_figure s := rfl
theorem ms_g_figure_wanted (s : MS) (v : Int32) : ms_figure (ms_set_wanted s v) = ms_figure s := rfl
theorem ms_g_figure_found (s : MS) (v : Nat → Int32) : ms_figure (ms_set_found s v) = ms_figure s := rfl
theorem ms_g_figure_isFound (s : MS) (v : Int32) : ms_figure (ms_set_isFound s v) = ms_figure s := rfl
theorem ms_g_figure_isSet (s : MS) (v : Nat → Int32) : ms_figure (ms_set_isSet s v) = ms_figure s := rfl
theorem ms_g_rnd_many (s : MS) (v : Int32) : ms_rnd (ms_set_many s v) = ms_rnd s := rfl
theorem ms_g_rnd_kindOf (s : MS) (v : Nat → Int32) : ms_rnd (ms_set_kindOf s v) = ms_rnd s := rfl
theorem ms_g_rnd_need (s : MS) (v : Nat → Int32) : ms_rnd (ms_set_need s v) = ms_rnd s := rfl
theorem ms_g_rnd_seed (s : MS) (v : Int32) : ms_rnd (ms_set_seed s v) = ms_rnd s := rfl
theorem ms_g_rnd_figs (s : MS) (v : Int32) : ms_rnd (ms_set_figs s v) = ms_rnd s := rfl
theorem ms_g_rnd_xs (s : MS) (v : Nat → Int64) : ms_rnd (ms_set_xs s v) = ms_rnd s := rfl
theorem ms_g_rnd_ys (s : MS) (v : Nat → Int64) : ms_rnd (ms_set_ys s v) = ms_rnd s := rfl
theorem ms_g_rnd_fallsAt (s : MS) (v : Nat → Int32) : ms_rnd (ms_set_fallsAt s v) = ms_rnd s := rfl
theorem ms_g_rnd_figure (s : MS) (v : Int32) : ms_rnd (ms_set_figure s v) = ms_rnd s := rfl
theorem ms_g_rnd_rnd (s : MS) (v : Int64) : ms_rnd (ms_set_rnd s v) = v := rfl
theorem ms_g_rnd_px (s : MS) (v : Int64) : ms_rnd (ms_set_px s v) = ms_rnd s := rfl
theorem ms_g_rnd_py (s : MS) (v : Int64) : ms_rnd (ms_set_py s v) = ms_rnd s := rfl
theorem ms_g_rnd_isFallen (s : MS) (v : Int32) : ms_rnd (ms_set_isFallen s v) = ms_rnd s := rfl
theorem ms_g_rnd_row (s : MS) (v : Nat → Int32) : ms_rnd (ms_set_row s v) = ms_rnd s := rfl
theorem ms_g_rnd_foundM (s : MS) (v : Int32) : ms_rnd (ms_set_foundM s v) = ms_rnd s := rfl
theorem ms_g_rnd_foundN (s : MS) (v : Int32) : ms_rnd (ms_set_foundN s v) = ms_rnd s := rfl
theorem ms_g_rnd_same (s : MS) (v : Nat → Int32) : ms_rnd (ms_set_same s v) = ms_rnd s := rfl
theorem ms_g_rnd_seen (s : MS) (v : Int32) : ms_rnd (ms_set_seen s v) = ms_rnd s := rfl
theorem ms_g_rnd_wanted (s : MS) (v : Int32) : ms_rnd (ms_set_wanted s v) = ms_rnd s := rfl
theorem ms_g_rnd_found (s : MS) (v : Nat → Int32) : ms_rnd (ms_set_found s v) = ms_rnd s := rfl
theorem ms_g_rnd_isFound (s : MS) (v : Int32) : ms_rnd (ms_set_isFound s v) = ms_rnd s := rfl
theorem ms_g_rnd_isSet (s : MS) (v : Nat → Int32) : ms_rnd (ms_set_isSet s v) = ms_rnd s := rfl
theorem ms_g_px_many (s : MS) (v : Int32) : ms_px (ms_set_many s v) = ms_px s := rfl
theorem ms_g_px_kindOf (s : MS) (v : Nat → Int32) : ms_px (ms_set_kindOf s v) = ms_px s := rfl
theorem ms_g_px_need (s : MS) (v : Nat → Int32) : ms_px (ms_set_need s v) = ms_px s := rfl
theorem ms_g_px_seed (s : MS) (v : Int32) : ms_px (ms_set_seed s v) = ms_px s := rfl
theorem ms_g_px_figs (s : MS) (v : Int32) : ms_px (ms_set_figs s v) = ms_px s := rfl
theorem ms_g_px_xs (s : MS) (v : Nat → Int64) : ms_px (ms_set_xs s v) = ms_px s := rfl
theorem ms_g_px_ys (s : MS) (v : Nat → Int64) : ms_px (ms_set_ys s v) = ms_px s := rfl
theorem ms_g_px_fallsAt (s : MS) (v : Nat → Int32) : ms_px (ms_set_fallsAt s v) = ms_px s := rfl
theorem ms_g_px_figure (s : MS) (v : Int32) : ms_px (ms_set_figure s v) = ms_px s := rfl
theorem ms_g_px_rnd (s : MS) (v : Int64) : ms_px (ms_set_rnd s v) = ms_px s := rfl
theorem ms_g_px_px (s : MS) (v : Int64) : ms_px (ms_set_px s v) = v := rfl
theorem ms_g_px_py (s : MS) (v : Int64) : ms_px (ms_set_py s v) = ms_px s := rfl
theorem ms_g_px_isFallen (s : MS) (v : Int32) : ms_px (ms_set_isFallen s v) = ms_px s := rfl
theorem ms_g_px_row (s : MS) (v : Nat → Int32) : ms_px (ms_set_row s v) = ms_px s := rfl
theorem ms_g_px_foundM (s : MS) (v : Int32) : ms_px (ms_set_foundM s v) = ms_px s := rfl
theorem ms_g_px_foundN (s : MS) (v : Int32) : ms_px (ms_set_foundN s v) = ms_px s := rfl
theorem ms_g_px_same (s : MS) (v : Nat → Int32) : ms_px (ms_set_same s v) = ms_px s := rfl
theorem ms_g_px_seen (s : MS) (v : Int32) : ms_px (ms_set_seen s v) = ms_px s := rfl
theorem ms_g_px_wanted (s : MS) (v : Int32) : ms_px (ms_set_wanted s v) = ms_px s := rfl
theorem ms_g_px_found (s : MS) (v : Nat → Int32) : ms_px (ms_set_found s v) = ms_px s := rfl
theorem ms_g_px_isFound (s : MS) (v : Int32) : ms_px (ms_set_isFound s v) = ms_px s := rfl
theorem ms_g_px_isSet (s : MS) (v : Nat → Int32) : ms_px (ms_set_isSet s v) = ms_px s := rfl
theorem ms_g_py_many (s : MS) (v : Int32) : ms_py (ms_set_many s v) = ms_py s := rfl
theorem ms_g_py_kindOf (s : MS) (v : Nat → Int32) : ms_py (ms_set_kindOf s v) = ms_py s := rfl
theorem ms_g_py_need (s : MS) (v : Nat → Int32) : ms_py (ms_set_need s v) = ms_py s := rfl
theorem ms_g_py_seed (s : MS) (v : Int32) : ms_py (ms_set_seed s v) = ms_py s := rfl
theorem ms_g_py_figs (s : MS) (v : Int32) : ms_py (ms_set_figs s v) = ms_py s := rfl
theorem ms_g_py_xs (s : MS) (v : Nat → Int64) : ms_py (ms_set_xs s v) = ms_py s := rfl
theorem ms_g_py_ys (s : MS) (v : Nat → Int64) : ms_py (ms_set_ys s v) = ms_py s := rfl
theorem ms_g_py_fallsAt (s : MS) (v : Nat → Int32) : ms_py (ms_set_fallsAt s v) = ms_py s := rfl
theorem ms_g_py_figure (s : MS) (v : Int32) : ms_py (ms_set_figure s v) = ms_py s := rfl
theorem ms_g_py_rnd (s : MS) (v : Int64) : ms_py (ms_set_rnd s v) = ms_py s := rfl
theorem ms_g_py_px (s : MS) (v : Int64) : ms_py (ms_set_px s v) = ms_py s := rfl
theorem ms_g_py_py (s : MS) (v : Int64) : ms_py (ms_set_py s v) = v := rfl
theorem ms_g_py_isFallen (s : MS) (v : Int32) : ms_py (ms_set_isFallen s v) = ms_py s := rfl
theorem ms_g_py_row (s : MS) (v : Nat → Int32) : ms_py (ms_set_row s v) = ms_py s := rfl
theorem ms_g_py_foundM (s : MS) (v : Int32) : ms_py (ms_set_foundM s v) = ms_py s := rfl
theorem ms_g_py_foundN (s : MS) (v : Int32) : ms_py (ms_set_foundN s v) = ms_py s := rfl
theorem ms_g_py_same (s : MS) (v : Nat → Int32) : ms_py (ms_set_same s v) = ms_py s := rfl
theorem ms_g_py_seen (s : MS) (v : Int32) : ms_py (ms_set_seen s v) = ms_py s := rfl
theorem ms_g_py_wanted (s : MS) (v : Int32) : ms_py (ms_set_wanted s v) = ms_py s := rfl
theorem ms_g_py_found (s : MS) (v : Nat → Int32) : ms_py (ms_set_found s v) = ms_py s := rfl
theorem ms_g_py_isFound (s : MS) (v : Int32) : ms_py (ms_set_isFound s v) = ms_py s := rfl
theorem ms_g_py_isSet (s : MS) (v : Nat → Int32) : ms_py (ms_set_isSet s v) = ms_py s := rfl
theorem ms_g_isFallen_many (s : MS) (v : Int32) : ms_isFallen (ms_set_many s v) = ms_isFallen s := rfl
theorem ms_g_isFallen_kindOf (s : MS) (v : Nat → Int32) : ms_isFallen (ms_set_kindOf s v) = ms_isFallen s := rfl
theorem ms_g_isFallen_need (s : MS) (v : Nat → Int32) : ms_isFallen (ms_set_need s v) = ms_isFallen s := rfl
theorem ms_g_isFallen_seed (s : MS) (v : Int32) : ms_isFallen (ms_set_seed s v) = ms_isFallen s := rfl
theorem ms_g_isFallen_figs (s : MS) (v : Int32) : ms_isFallen (ms_set_figs s v) = ms_isFallen s := rfl
theorem ms_g_isFallen_xs (s : MS) (v : Nat → Int64) : ms_isFallen (ms_set_xs s v) = ms_isFallen s := rfl
theorem ms_g_isFallen_ys (s : MS) (v : Nat → Int64) : ms_isFallen (ms_set_ys s v) = ms_isFallen s := rfl
theorem ms_g_isFallen_fallsAt (s : MS) (v : Nat → Int32) : ms_isFallen (ms_set_fallsAt s v) = ms_isFallen s := rfl
theorem ms_g_isFallen_figure (s : MS) (v : Int32) : ms_isFallen (ms_set_figure s v) = ms_isFallen s := rfl
theorem ms_g_isFallen_rnd (s : MS) (v : Int64) : ms_isFallen (ms_set_rnd s v) = ms_isFallen s := rfl
theorem ms_g_isFallen_px (s : MS) (v : Int64) : ms_isFallen (ms_set_px s v) = ms_isFallen s := rfl
theorem ms_g_isFallen_py (s : MS) (v : Int64) : ms_isFallen (ms_set_py s v) = ms_isFallen s := rfl
theorem ms_g_isFallen_isFallen (s : MS) (v : Int32) : ms_isFallen (ms_set_isFallen s v) = v := rfl
theorem ms_g_isFallen_row (s : MS) (v : Nat → Int32) : ms_isFallen (ms_set_row s v) = ms_isFallen s := rfl
theorem ms_g_isFallen_foundM (s : MS) (v : Int32) : ms_isFallen (ms_set_foundM s v) = ms_isFallen s := rfl
theorem ms_g_isFallen_foundN (s : MS) (v : Int32) : ms_isFallen (ms_set_foundN s v) = ms_isFallen s := rfl
theorem ms_g_isFallen_same (s : MS) (v : Nat → Int32) : ms_isFallen (ms_set_same s v) = ms_isFallen s := rfl
theorem ms_g_isFallen_seen (s : MS) (v : Int32) : ms_isFallen (ms_set_seen s v) = ms_isFallen s := rfl
theorem ms_g_isFallen_wanted (s : MS) (v : Int32) : ms_isFallen (ms_set_wanted s v) = ms_isFallen s := rfl
theorem ms_g_isFallen_found (s : MS) (v : Nat → Int32) : ms_isFallen (ms_set_found s v) = ms_isFallen s := rfl
theorem ms_g_isFallen_isFound (s : MS) (v : Int32) : ms_isFallen (ms_set_isFound s v) = ms_isFallen s := rfl
theorem ms_g_isFallen_isSet (s : MS) (v : Nat → Int32) : ms_isFallen (ms_set_isSet s v) = ms_isFallen s := rfl
theorem ms_g_row_many (s : MS) (v : Int32) : ms_row (ms_set_many s v) = ms_row s := rfl
theorem ms_g_row_kindOf (s : MS) (v : Nat → Int32) : ms_row (ms_set_kindOf s v) = ms_row s := rfl
theorem ms_g_row_need (s : MS) (v : Nat → Int32) : ms_row (ms_set_need s v) = ms_row s := rfl
theorem ms_g_row_seed (s : MS) (v : Int32) : ms_row (ms_set_seed s v) = ms_row s := rfl
theorem ms_g_row_figs (s : MS) (v : Int32) : ms_row (ms_set_figs s v) = ms_row s := rfl
theorem ms_g_row_xs (s : MS) (v : Nat → Int64) : ms_row (ms_set_xs s v) = ms_row s := rfl
theorem ms_g_row_ys (s : MS) (v : Nat → Int64) : ms_row (ms_set_ys s v) = ms_row s := rfl
theorem ms_g_row_fallsAt (s : MS) (v : Nat → Int32) : ms_row (ms_set_fallsAt s v) = ms_row s := rfl
theorem ms_g_row_figure (s : MS) (v : Int32) : ms_row (ms_set_figure s v) = ms_row s := rfl
theorem ms_g_row_rnd (s : MS) (v : Int64) : ms_row (ms_set_rnd s v) = ms_row s := rfl
theorem ms_g_row_px (s : MS) (v : Int64) : ms_row (ms_set_px s v) = ms_row s := rfl
theorem ms_g_row_py (s : MS) (v : Int64) : ms_row (ms_set_py s v) = ms_row s := rfl
theorem ms_g_row_isFallen (s : MS) (v : Int32) : ms_row (ms_set_isFallen s v) = ms_row s := rfl
theorem ms_g_row_row (s : MS) (v : Nat → Int32) : ms_row (ms_set_row s v) = v := rfl
theorem ms_g_row_foundM (s : MS) (v : Int32) : ms_row (ms_set_foundM s v) = ms_row s := rfl
theorem ms_g_row_foundN (s : MS) (v : Int32) : ms_row (ms_set_foundN s v) = ms_row s := rfl
theorem ms_g_row_same (s : MS) (v : Nat → Int32) : ms_row (ms_set_same s v) = ms_row s := rfl
theorem ms_g_row_seen (s : MS) (v : Int32) : ms_row (ms_set_seen s v) = ms_row s := rfl
theorem ms_g_row_wanted (s : MS) (v : Int32) : ms_row (ms_set_wanted s v) = ms_row s := rfl
theorem ms_g_row_found (s : MS) (v : Nat → Int32) : ms_row (ms_set_found s v) = ms_row s := rfl
theorem ms_g_row_isFound (s : MS) (v : Int32) : ms_row (ms_set_isFound s v) = ms_row s := rfl
theorem ms_g_row_isSet (s : MS) (v : Nat → Int32) : ms_row (ms_set_isSet s v) = ms_row s := rfl
theorem ms_g_foundM_many (s : MS) (v : Int32) : ms_foundM (ms_set_many s v) = ms_foundM s := rfl
theorem ms_g_foundM_kindOf (s : MS) (v : Nat → Int32) : ms_foundM (ms_set_kindOf s v) = ms_foundM s := rfl
theorem ms_g_foundM_need (s : MS) (v : Nat → Int32) : ms_foundM (ms_set_need s v) = ms_foundM s := rfl
theorem ms_g_foundM_seed (s : MS) (v : Int32) : ms_foundM (ms_set_seed s v) = ms_foundM s := rfl
theorem ms_g_foundM_figs (s : MS) (v : Int32) : ms_foundM (ms_set_figs s v) = ms_foundM s := rfl
theorem ms_g_foundM_xs (s : MS) (v : Nat → Int64) : ms_foundM (ms_set_xs s v) = ms_foundM s := rfl
theorem ms_g_foundM_ys (s : MS) (v : Nat → Int64) : ms_foundM (ms_set_ys s v) = ms_foundM s := rfl
theorem ms_g_foundM_fallsAt (s : MS) (v : Nat → Int32) : ms_foundM (ms_set_fallsAt s v) = ms_foundM s := rfl
theorem ms_g_foundM_figure (s : MS) (v : Int32) : ms_foundM (ms_set_figure s v) = ms_foundM s := rfl
theorem ms_g_foundM_rnd (s : MS) (v : Int64) : ms_foundM (ms_set_rnd s v) = ms_foundM s := rfl
theorem ms_g_foundM_px (s : MS) (v : Int64) : ms_foundM (ms_set_px s v) = ms_foundM s := rfl
theorem ms_g_foundM_py (s : MS) (v : Int64) : ms_foundM (ms_set_py s v) = ms_foundM s := rfl
theorem ms_g_foundM_isFallen (s : MS) (v : Int32) : ms_foundM (ms_set_isFallen s v) = ms_foundM s := rfl
theorem ms_g_foundM_row (s : MS) (v : Nat → Int32) : ms_foundM (ms_set_row s v) = ms_foundM s := rfl
theorem ms_g_foundM_foundM (s : MS) (v : Int32) : ms_foundM (ms_set_foundM s v) = v := rfl
theorem ms_g_foundM_foundN (s : MS) (v : Int32) : ms_foundM (ms_set_foundN s v) = ms_foundM s := rfl
theorem ms_g_foundM_same (s : MS) (v : Nat → Int32) : ms_foundM (ms_set_same s v) = ms_foundM s := rfl
theorem ms_g_foundM_seen (s : MS) (v : Int32) : ms_foundM (ms_set_seen s v) = ms_foundM s := rfl
theorem ms_g_foundM_wanted (s : MS) (v : Int32) : ms_foundM (ms_set_wanted s v) = ms_foundM s := rfl
theorem ms_g_foundM_found (s : MS) (v : Nat → Int32) : ms_foundM (ms_set_found s v) = ms_foundM s := rfl
theorem ms_g_foundM_isFound (s : MS) (v : Int32) : ms_foundM (ms_set_isFound s v) = ms_foundM s := rfl
theorem ms_g_foundM_isSet (s : MS) (v : Nat → Int32) : ms_foundM (ms_set_isSet s v) = ms_foundM s := rfl
theorem ms_g_foundN_many (s : MS) (v : Int32) : ms_foundN (ms_set_many s v) = ms_foundN s := rfl
theorem ms_g_foundN_kindOf (s : MS) (v : Nat → Int32) : ms_foundN (ms_set_kindOf s v) = ms_foundN s := rfl
theorem ms_g_foundN_need (s : MS) (v : Nat → Int32) : ms_foundN (ms_set_need s v) = ms_foundN s := rfl
theorem ms_g_foundN_seed (s : MS) (v : Int32) : ms_foundN (ms_set_seed s v) = ms_foundN s := rfl
theorem ms_g_foundN_figs (s : MS) (v : Int32) : ms_foundN (ms_set_figs s v) = ms_foundN s := rfl
theorem ms_g_foundN_xs (s : MS) (v : Nat → Int64) : ms_foundN (ms_set_xs s v) = ms_foundN s := rfl
theorem ms_g_foundN_ys (s : MS) (v : Nat → Int64) : ms_foundN (ms_set_ys s v) = ms_foundN s := rfl
theorem ms_g_foundN_fallsAt (s : MS) (v : Nat → Int32) : ms_foundN (ms_set_fallsAt s v) = ms_foundN s := rfl
theorem ms_g_foundN_figure (s : MS) (v : Int32) : ms_foundN (ms_set_figure s v) = ms_foundN s := rfl
theorem ms_g_foundN_rnd (s : MS) (v : Int64) : ms_foundN (ms_set_rnd s v) = ms_foundN s := rfl
theorem ms_g_foundN_px (s : MS) (v : Int64) : ms_foundN (ms_set_px s v) = ms_foundN s := rfl
theorem ms_g_foundN_py (s : MS) (v : Int64) : ms_foundN (ms_set_py s v) = ms_foundN s := rfl
theorem ms_g_foundN_isFallen (s : MS) (v : Int32) : ms_foundN (ms_set_isFallen s v) = ms_foundN s := rfl
theorem ms_g_foundN_row (s : MS) (v : Nat → Int32) : ms_foundN (ms_set_row s v) = ms_foundN s := rfl
theorem ms_g_foundN_foundM (s : MS) (v : Int32) : ms_foundN (ms_set_foundM s v) = ms_foundN s := rfl
theorem ms_g_foundN_foundN (s : MS) (v : Int32) : ms_foundN (ms_set_foundN s v) = v := rfl
theorem ms_g_foundN_same (s : MS) (v : Nat → Int32) : ms_foundN (ms_set_same s v) = ms_foundN s := rfl
theorem ms_g_foundN_seen (s : MS) (v : Int32) : ms_foundN (ms_set_seen s v) = ms_foundN s := rfl
theorem ms_g_foundN_wanted (s : MS) (v : Int32) : ms_foundN (ms_set_wanted s v) = ms_foundN s := rfl
theorem ms_g_foundN_found (s : MS) (v : Nat → Int32) : ms_foundN (ms_set_found s v) = ms_foundN s := rfl
theorem ms_g_foundN_isFound (s : MS) (v : Int32) : ms_foundN (ms_set_isFound s v) = ms_foundN s := rfl
theorem ms_g_foundN_isSet (s : MS) (v : Nat → Int32) : ms_foundN (ms_set_isSet s v) = ms_foundN s := rfl
theorem ms_g_same_many (s : MS) (v : Int32) : ms_same (ms_set_many s v) = ms_same s := rfl
theorem ms_g_same_kindOf (s : MS) (v : Nat → Int32) : ms_same (ms_set_kindOf s v) = ms_same s := rfl
theorem ms_g_same_need (s : MS) (v : Nat → Int32) : ms_same (ms_set_need s v) = ms_same s := rfl
theorem ms_g_same_seed (s : MS) (v : Int32) : ms_same (ms_set_seed s v) = ms_same s := rfl
theorem ms_g_same_figs (s : MS) (v : Int32) : ms_same (ms_set_figs s v) = ms_same s := rfl
theorem ms_g_same_xs (s : MS) (v : Nat → Int64) : ms_same (ms_set_xs s v) = ms_same s := rfl
theorem ms_g_same_ys (s : MS) (v : Nat → Int64) : ms_same (ms_set_ys s v) = ms_same s := rfl
theorem ms_g_same_fallsAt (s : MS) (v : Nat → Int32) : ms_same (ms_set_fallsAt s v) = ms_same s := rfl
theorem ms_g_same_figure (s : MS) (v : Int32) : ms_same (ms_set_figure s v) = ms_same s := rfl
theorem ms_g_same_rnd (s : MS) (v : Int64) : ms_same (ms_set_rnd s v) = ms_same s := rfl
theorem ms_g_same_px (s : MS) (v : Int64) : ms_same (ms_set_px s v) = ms_same s := rfl
theorem ms_g_same_py (s : MS) (v : Int64) : ms_same (ms_set_py s v) = ms_same s := rfl
theorem ms_g_same_isFallen (s : MS) (v : Int32) : ms_same (ms_set_isFallen s v) = ms_same s := rfl
theorem ms_g_same_row (s : MS) (v : Nat → Int32) : ms_same (ms_set_row s v) = ms_same s := rfl
theorem ms_g_same_foundM (s : MS) (v : Int32) : ms_same (ms_set_foundM s v) = ms_same s := rfl
theorem ms_g_same_foundN (s : MS) (v : Int32) : ms_same (ms_set_foundN s v) = ms_same s := rfl
theorem ms_g_same_same (s : MS) (v : Nat → Int32) : ms_same (ms_set_same s v) = v := rfl
theorem ms_g_same_seen (s : MS) (v : Int32) : ms_same (ms_set_seen s v) = ms_same s := rfl
theorem ms_g_same_wanted (s : MS) (v : Int32) : ms_same (ms_set_wanted s v) = ms_same s := rfl
theorem ms_g_same_found (s : MS) (v : Nat → Int32) : ms_same (ms_set_found s v) = ms_same s := rfl
theorem ms_g_same_isFound (s : MS) (v : Int32) : ms_same (ms_set_isFound s v) = ms_same s := rfl
theorem ms_g_same_isSet (s : MS) (v : Nat → Int32) : ms_same (ms_set_isSet s v) = ms_same s := rfl
theorem ms_g_seen_many (s : MS) (v : Int32) : ms_seen (ms_set_many s v) = ms_seen s := rfl
theorem ms_g_seen_kindOf (s : MS) (v : Nat → Int32) : ms_seen (ms_set_kindOf s v) = ms_seen s := rfl
theorem ms_g_seen_need (s : MS) (v : Nat → Int32) : ms_seen (ms_set_need s v) = ms_seen s := rfl
theorem ms_g_seen_seed (s : MS) (v : Int32) : ms_seen (ms_set_seed s v) = ms_seen s := rfl
theorem ms_g_seen_figs (s : MS) (v : Int32) : ms_seen (ms_set_figs s v) = ms_seen s := rfl
theorem ms_g_seen_xs (s : MS) (v : Nat → Int64) : ms_seen (ms_set_xs s v) = ms_seen s := rfl
theorem ms_g_seen_ys (s : MS) (v : Nat → Int64) : ms_seen (ms_set_ys s v) = ms_seen s := rfl
theorem ms_g_seen_fallsAt (s : MS) (v : Nat → Int32) : ms_seen (ms_set_fallsAt s v) = ms_seen s := rfl
theorem ms_g_seen_figure (s : MS) (v : Int32) : ms_seen (ms_set_figure s v) = ms_seen s := rfl
theorem ms_g_seen_rnd (s : MS) (v : Int64) : ms_seen (ms_set_rnd s v) = ms_seen s := rfl
theorem ms_g_seen_px (s : MS) (v : Int64) : ms_seen (ms_set_px s v) = ms_seen s := rfl
theorem ms_g_seen_py (s : MS) (v : Int64) : ms_seen (ms_set_py s v) = ms_seen s := rfl
theorem ms_g_seen_isFallen (s : MS) (v : Int32) : ms_seen (ms_set_isFallen s v) = ms_seen s := rfl
theorem ms_g_seen_row (s : MS) (v : Nat → Int32) : ms_seen (ms_set_row s v) = ms_seen s := rfl
theorem ms_g_seen_foundM (s : MS) (v : Int32) : ms_seen (ms_set_foundM s v) = ms_seen s := rfl
theorem ms_g_seen_foundN (s : MS) (v : Int32) : ms_seen (ms_set_foundN s v) = ms_seen s := rfl
theorem ms_g_seen_same (s : MS) (v : Nat → Int32) : ms_seen (ms_set_same s v) = ms_seen s := rfl
theorem ms_g_seen_seen (s : MS) (v : Int32) : ms_seen (ms_set_seen s v) = v := rfl
theorem ms_g_seen_wanted (s : MS) (v : Int32) : ms_seen (ms_set_wanted s v) = ms_seen s := rfl
theorem ms_g_seen_found (s : MS) (v : Nat → Int32) : ms_seen (ms_set_found s v) = ms_seen s := rfl
theorem ms_g_seen_isFound (s : MS) (v : Int32) : ms_seen (ms_set_isFound s v) = ms_seen s := rfl
theorem ms_g_seen_isSet (s : MS) (v : Nat → Int32) : ms_seen (ms_set_isSet s v) = ms_seen s := rfl
theorem ms_g_wanted_many (s : MS) (v : Int32) : ms_wanted (ms_set_many s v) = ms_wanted s := rfl
theorem ms_g_wanted_kindOf (s : MS) (v : Nat → Int32) : ms_wanted (ms_set_kindOf s v) = ms_wanted s := rfl
theorem ms_g_wanted_need (s : MS) (v : Nat → Int32) : ms_wanted (ms_set_need s v) = ms_wanted s := rfl
theorem ms_g_wanted_seed (s : MS) (v : Int32) : ms_wanted (ms_set_seed s v) = ms_wanted s := rfl
theorem ms_g_wanted_figs (s : MS) (v : Int32) : ms_wanted (ms_set_figs s v) = ms_wanted s := rfl
theorem ms_g_wanted_xs (s : MS) (v : Nat → Int64) : ms_wanted (ms_set_xs s v) = ms_wanted s := rfl
theorem ms_g_wanted_ys (s : MS) (v : Nat → Int64) : ms_wanted (ms_set_ys s v) = ms_wanted s := rfl
theorem ms_g_wanted_fallsAt (s : MS) (v : Nat → Int32) : ms_wanted (ms_set_fallsAt s v) = ms_wanted s := rfl
theorem ms_g_wanted_figure (s : MS) (v : Int32) : ms_wanted (ms_set_figure s v) = ms_wanted s := rfl
theorem ms_g_wanted_rnd (s : MS) (v : Int64) : ms_wanted (ms_set_rnd s v) = ms_wanted s := rfl
theorem ms_g_wanted_px (s : MS) (v : Int64) : ms_wanted (ms_set_px s v) = ms_wanted s := rfl
theorem ms_g_wanted_py (s : MS) (v : Int64) : ms_wanted (ms_set_py s v) = ms_wanted s := rfl
theorem ms_g_wanted_isFallen (s : MS) (v : Int32) : ms_wanted (ms_set_isFallen s v) = ms_wanted s := rfl
theorem ms_g_wanted_row (s : MS) (v : Nat → Int32) : ms_wanted (ms_set_row s v) = ms_wanted s := rfl
theorem ms_g_wanted_foundM (s : MS) (v : Int32) : ms_wanted (ms_set_foundM s v) = ms_wanted s := rfl
theorem ms_g_wanted_foundN (s : MS) (v : Int32) : ms_wanted (ms_set_foundN s v) = ms_wanted s := rfl
theorem ms_g_wanted_same (s : MS) (v : Nat → Int32) : ms_wanted (ms_set_same s v) = ms_wanted s := rfl
theorem ms_g_wanted_seen (s : MS) (v : Int32) : ms_wanted (ms_set_seen s v) = ms_wanted s := rfl
theorem ms_g_wanted_wanted (s : MS) (v : Int32) : ms_wanted (ms_set_wanted s v) = v := rfl
theorem ms_g_wanted_found (s : MS) (v : Nat → Int32) : ms_wanted (ms_set_found s v) = ms_wanted s := rfl
theorem ms_g_wanted_isFound (s : MS) (v : Int32) : ms_wanted (ms_set_isFound s v) = ms_wanted s := rfl
theorem ms_g_wanted_isSet (s : MS) (v : Nat → Int32) : ms_wanted (ms_set_isSet s v) = ms_wanted s := rfl
theorem ms_g_found_many (s : MS) (v : Int32) : ms_found (ms_set_many s v) = ms_found s := rfl
theorem ms_g_found_kindOf (s : MS) (v : Nat → Int32) : ms_found (ms_set_kindOf s v) = ms_found s := rfl
theorem ms_g_found_need (s : MS) (v : Nat → Int32) : ms_found (ms_set_need s v) = ms_found s := rfl
theorem ms_g_found_seed (s : MS) (v : Int32) : ms_found (ms_set_seed s v) = ms_found s := rfl
theorem ms_g_found_figs (s : MS) (v : Int32) : ms_found (ms_set_figs s v) = ms_found s := rfl
theorem ms_g_found_xs (s : MS) (v : Nat → Int64) : ms_found (ms_set_xs s v) = ms_found s := rfl
theorem ms_g_found_ys (s : MS) (v : Nat → Int64) : ms_found (ms_set_ys s v) = ms_found s := rfl
theorem ms_g_found_fallsAt (s : MS) (v : Nat → Int32) : ms_found (ms_set_fallsAt s v) = ms_found s := rfl
theorem ms_g_found_figure (s : MS) (v : Int32) : ms_found (ms_set_figure s v) = ms_found s := rfl
theorem ms_g_found_rnd (s : MS) (v : Int64) : ms_found (ms_set_rnd s v) = ms_found s := rfl
theorem ms_g_found_px (s : MS) (v : Int64) : ms_found (ms_set_px s v) = ms_found s := rfl
theorem ms_g_found_py (s : MS) (v : Int64) : ms_found (ms_set_py s v) = ms_found s := rfl
theorem ms_g_found_isFallen (s : MS) (v : Int32) : ms_found (ms_set_isFallen s v) = ms_found s := rfl
theorem ms_g_found_row (s : MS) (v : Nat → Int32) : ms_found (ms_set_row s v) = ms_found s := rfl
theorem ms_g_found_foundM (s : MS) (v : Int32) : ms_found (ms_set_foundM s v) = ms_found s := rfl
theorem ms_g_found_foundN (s : MS) (v : Int32) : ms_found (ms_set_foundN s v) = ms_found s := rfl
theorem ms_g_found_same (s : MS) (v : Nat → Int32) : ms_found (ms_set_same s v) = ms_found s := rfl
theorem ms_g_found_seen (s : MS) (v : Int32) : ms_found (ms_set_seen s v) = ms_found s := rfl
theorem ms_g_found_wanted (s : MS) (v : Int32) : ms_found (ms_set_wanted s v) = ms_found s := rfl
theorem ms_g_found_found (s : MS) (v : Nat → Int32) : ms_found (ms_set_found s v) = v := rfl
theorem ms_g_found_isFound (s : MS) (v : Int32) : ms_found (ms_set_isFound s v) = ms_found s := rfl
theorem ms_g_found_isSet (s : MS) (v : Nat → Int32) : ms_found (ms_set_isSet s v) = ms_found s := rfl
theorem ms_g_isFound_many (s : MS) (v : Int32) : ms_isFound (ms_set_many s v) = ms_isFound s := rfl
theorem ms_g_isFound_kindOf (s : MS) (v : Nat → Int32) : ms_isFound (ms_set_kindOf s v) = ms_isFound s := rfl
theorem ms_g_isFound_need (s : MS) (v : Nat → Int32) : ms_isFound (ms_set_need s v) = ms_isFound s := rfl
theorem ms_g_isFound_seed (s : MS) (v : Int32) : ms_isFound (ms_set_seed s v) = ms_isFound s := rfl
theorem ms_g_isFound_figs (s : MS) (v : Int32) : ms_isFound (ms_set_figs s v) = ms_isFound s := rfl
theorem ms_g_isFound_xs (s : MS) (v : Nat → Int64) : ms_isFound (ms_set_xs s v) = ms_isFound s := rfl
theorem ms_g_isFound_ys (s : MS) (v : Nat → Int64) : ms_isFound (ms_set_ys s v) = ms_isFound s := rfl
theorem ms_g_isFound_fallsAt (s : MS) (v : Nat → Int32) : ms_isFound (ms_set_fallsAt s v) = ms_isFound s := rfl
theorem ms_g_isFound_figure (s : MS) (v : Int32) : ms_isFound (ms_set_figure s v) = ms_isFound s := rfl
theorem ms_g_isFound_rnd (s : MS) (v : Int64) : ms_isFound (ms_set_rnd s v) = ms_isFound s := rfl
theorem ms_g_isFound_px (s : MS) (v : Int64) : ms_isFound (ms_set_px s v) = ms_isFound s := rfl
theorem ms_g_isFound_py (s : MS) (v : Int64) : ms_isFound (ms_set_py s v) = ms_isFound s := rfl
theorem ms_g_isFound_isFallen (s : MS) (v : Int32) : ms_isFound (ms_set_isFallen s v) = ms_isFound s := rfl
theorem ms_g_isFound_row (s : MS) (v : Nat → Int32) : ms_isFound (ms_set_row s v) = ms_isFound s := rfl
theorem ms_g_isFound_foundM (s : MS) (v : Int32) : ms_isFound (ms_set_foundM s v) = ms_isFound s := rfl
theorem ms_g_isFound_foundN (s : MS) (v : Int32) : ms_isFound (ms_set_foundN s v) = ms_isFound s := rfl
theorem ms_g_isFound_same (s : MS) (v : Nat → Int32) : ms_isFound (ms_set_same s v) = ms_isFound s := rfl
theorem ms_g_isFound_seen (s : MS) (v : Int32) : ms_isFound (ms_set_seen s v) = ms_isFound s := rfl
theorem ms_g_isFound_wanted (s : MS) (v : Int32) : ms_isFound (ms_set_wanted s v) = ms_isFound s := rfl
theorem ms_g_isFound_found (s : MS) (v : Nat → Int32) : ms_isFound (ms_set_found s v) = ms_isFound s := rfl
theorem ms_g_isFound_isFound (s : MS) (v : Int32) : ms_isFound (ms_set_isFound s v) = v := rfl
theorem ms_g_isFound_isSet (s : MS) (v : Nat → Int32) : ms_isFound (ms_set_isSet s v) = ms_isFound s := rfl
theorem ms_g_isSet_many (s : MS) (v : Int32) : ms_isSet (ms_set_many s v) = ms_isSet s := rfl
theorem ms_g_isSet_kindOf (s : MS) (v : Nat → Int32) : ms_isSet (ms_set_kindOf s v) = ms_isSet s := rfl
theorem ms_g_isSet_need (s : MS) (v : Nat → Int32) : ms_isSet (ms_set_need s v) = ms_isSet s := rfl
theorem ms_g_isSet_seed (s : MS) (v : Int32) : ms_isSet (ms_set_seed s v) = ms_isSet s := rfl
theorem ms_g_isSet_figs (s : MS) (v : Int32) : ms_isSet (ms_set_figs s v) = ms_isSet s := rfl
theorem ms_g_isSet_xs (s : MS) (v : Nat → Int64) : ms_isSet (ms_set_xs s v) = ms_isSet s := rfl
theorem ms_g_isSet_ys (s : MS) (v : Nat → Int64) : ms_isSet (ms_set_ys s v) = ms_isSet s := rfl
theorem ms_g_isSet_fallsAt (s : MS) (v : Nat → Int32) : ms_isSet (ms_set_fallsAt s v) = ms_isSet s := rfl
theorem ms_g_isSet_figure (s : MS) (v : Int32) : ms_isSet (ms_set_figure s v) = ms_isSet s := rfl
theorem ms_g_isSet_rnd (s : MS) (v : Int64) : ms_isSet (ms_set_rnd s v) = ms_isSet s := rfl
theorem ms_g_isSet_px (s : MS) (v : Int64) : ms_isSet (ms_set_px s v) = ms_isSet s := rfl
theorem ms_g_isSet_py (s : MS) (v : Int64) : ms_isSet (ms_set_py s v) = ms_isSet s := rfl
theorem ms_g_isSet_isFallen (s : MS) (v : Int32) : ms_isSet (ms_set_isFallen s v) = ms_isSet s := rfl
theorem ms_g_isSet_row (s : MS) (v : Nat → Int32) : ms_isSet (ms_set_row s v) = ms_isSet s := rfl
theorem ms_g_isSet_foundM (s : MS) (v : Int32) : ms_isSet (ms_set_foundM s v) = ms_isSet s := rfl
theorem ms_g_isSet_foundN (s : MS) (v : Int32) : ms_isSet (ms_set_foundN s v) = ms_isSet s := rfl
theorem ms_g_isSet_same (s : MS) (v : Nat → Int32) : ms_isSet (ms_set_same s v) = ms_isSet s := rfl
theorem ms_g_isSet_seen (s : MS) (v : Int32) : ms_isSet (ms_set_seen s v) = ms_isSet s := rfl
theorem ms_g_isSet_wanted (s : MS) (v : Int32) : ms_isSet (ms_set_wanted s v) = ms_isSet s := rfl
theorem ms_g_isSet_found (s : MS) (v : Nat → Int32) : ms_isSet (ms_set_found s v) = ms_isSet s := rfl
theorem ms_g_isSet_isFound (s : MS) (v : Int32) : ms_isSet (ms_set_isFound s v) = ms_isSet s := rfl
theorem ms_g_isSet_isSet (s : MS) (v : Nat → Int32) : ms_isSet (ms_set_isSet s v) = v := rfl
theorem ms_ext {s z : MS} (h0 : ms_many s = ms_many z) (h1 : ms_kindOf s = ms_kindOf z) (h2 : ms_need s = ms_need z) (h3 : ms_seed s = ms_seed z) (h4 : ms_figs s = ms_figs z) (h5 : ms_xs s = ms_xs z) (h6 : ms_ys s = ms_ys z) (h7 : ms_fallsAt s = ms_fallsAt z) (h8 : ms_figure s = ms_figure z) (h9 : ms_rnd s = ms_rnd z) (h10 : ms_px s = ms_px z) (h11 : ms_py s = ms_py z) (h12 : ms_isFallen s = ms_isFallen z) (h13 : ms_row s = ms_row z) (h14 : ms_foundM s = ms_foundM z) (h15 : ms_foundN s = ms_foundN z) (h16 : ms_same s = ms_same z) (h17 : ms_seen s = ms_seen z) (h18 : ms_wanted s = ms_wanted z) (h19 : ms_found s = ms_found z) (h20 : ms_isFound s = ms_isFound z) (h21 : ms_isSet s = ms_isSet z) : s = z := Prod.ext h0 (Prod.ext h1 (Prod.ext h2 (Prod.ext h3 (Prod.ext h4 (Prod.ext h5 (Prod.ext h6 (Prod.ext h7 (Prod.ext h8 (Prod.ext h9 (Prod.ext h10 (Prod.ext h11 (Prod.ext h12 (Prod.ext h13 (Prod.ext h14 (Prod.ext h15 (Prod.ext h16 (Prod.ext h17 (Prod.ext h18 (Prod.ext h19 (Prod.ext h20 (h21)))))))))))))))))))))
theorem cm_1 (s : CS) (v : Nat → Int32) (w : Nat → Int64) : cs_set_rnd (cs_set_foundY s v) w = cs_set_foundY (cs_set_rnd s w) v := cs_ext (((cs_g_seed_rnd (cs_set_foundY s v) w).trans (cs_g_seed_foundY s v)).trans ((cs_g_seed_foundY (cs_set_rnd s w) v).trans (cs_g_seed_rnd s w)).symm) (((cs_g_figs_rnd (cs_set_foundY s v) w).trans (cs_g_figs_foundY s v)).trans ((cs_g_figs_foundY (cs_set_rnd s w) v).trans (cs_g_figs_rnd s w)).symm) (((cs_g_psize_rnd (cs_set_foundY s v) w).trans (cs_g_psize_foundY s v)).trans ((cs_g_psize_foundY (cs_set_rnd s w) v).trans (cs_g_psize_rnd s w)).symm) (((cs_g_kinds_rnd (cs_set_foundY s v) w).trans (cs_g_kinds_foundY s v)).trans ((cs_g_kinds_foundY (cs_set_rnd s w) v).trans (cs_g_kinds_rnd s w)).symm) (((cs_g_srcs_rnd (cs_set_foundY s v) w).trans (cs_g_srcs_foundY s v)).trans ((cs_g_srcs_foundY (cs_set_rnd s w) v).trans (cs_g_srcs_rnd s w)).symm) (((cs_g_pts_rnd (cs_set_foundY s v) w).trans (cs_g_pts_foundY s v)).trans ((cs_g_pts_foundY (cs_set_rnd s w) v).trans (cs_g_pts_rnd s w)).symm) (((cs_g_known_rnd (cs_set_foundY s v) w).trans (cs_g_known_foundY s v)).trans ((cs_g_known_foundY (cs_set_rnd s w) v).trans (cs_g_known_rnd s w)).symm) (((cs_g_leads_rnd (cs_set_foundY s v) w).trans (cs_g_leads_foundY s v)).trans ((cs_g_leads_foundY (cs_set_rnd s w) v).trans (cs_g_leads_rnd s w)).symm) (((cs_g_areas_rnd (cs_set_foundY s v) w).trans (cs_g_areas_foundY s v)).trans ((cs_g_areas_foundY (cs_set_rnd s w) v).trans (cs_g_areas_rnd s w)).symm) (((cs_g_stand_rnd (cs_set_foundY s v) w).trans (cs_g_stand_foundY s v)).trans ((cs_g_stand_foundY (cs_set_rnd s w) v).trans (cs_g_stand_rnd s w)).symm) (((cs_g_dsize_rnd (cs_set_foundY s v) w).trans (cs_g_dsize_foundY s v)).trans ((cs_g_dsize_foundY (cs_set_rnd s w) v).trans (cs_g_dsize_rnd s w)).symm) (((cs_g_divr_rnd (cs_set_foundY s v) w).trans (cs_g_divr_foundY s v)).trans ((cs_g_divr_foundY (cs_set_rnd s w) v).trans (cs_g_divr_rnd s w)).symm) (((cs_g_invs_rnd (cs_set_foundY s v) w).trans (cs_g_invs_foundY s v)).trans ((cs_g_invs_foundY (cs_set_rnd s w) v).trans (cs_g_invs_rnd s w)).symm) (((cs_g_fx_rnd (cs_set_foundY s v) w).trans (cs_g_fx_foundY s v)).trans ((cs_g_fx_foundY (cs_set_rnd s w) v).trans (cs_g_fx_rnd s w)).symm) (((cs_g_fy_rnd (cs_set_foundY s v) w).trans (cs_g_fy_foundY s v)).trans ((cs_g_fy_foundY (cs_set_rnd s w) v).trans (cs_g_fy_rnd s w)).symm) (((cs_g_made_rnd (cs_set_foundY s v) w).trans (cs_g_made_foundY s v)).trans ((cs_g_made_foundY (cs_set_rnd s w) v).trans (cs_g_made_rnd s w)).symm) (((cs_g_fallen_rnd (cs_set_foundY s v) w).trans (cs_g_fallen_foundY s v)).trans ((cs_g_fallen_foundY (cs_set_rnd s w) v).trans (cs_g_fallen_rnd s w)).symm) ((cs_g_rnd_rnd (cs_set_foundY s v) w).trans ((cs_g_rnd_foundY (cs_set_rnd s w) v).trans (cs_g_rnd_rnd s w)).symm) (((cs_g_foundX_rnd (cs_set_foundY s v) w).trans (cs_g_foundX_foundY s v)).trans ((cs_g_foundX_foundY (cs_set_rnd s w) v).trans (cs_g_foundX_rnd s w)).symm) (((cs_g_foundY_rnd (cs_set_foundY s v) w).trans (cs_g_foundY_foundY s v)).trans (cs_g_foundY_foundY (cs_set_rnd s w) v).symm) (((cs_g_items_rnd (cs_set_foundY s v) w).trans (cs_g_items_foundY s v)).trans ((cs_g_items_foundY (cs_set_rnd s w) v).trans (cs_g_items_rnd s w)).symm) (((cs_g_lsize_rnd (cs_set_foundY s v) w).trans (cs_g_lsize_foundY s v)).trans ((cs_g_lsize_foundY (cs_set_rnd s w) v).trans (cs_g_lsize_rnd s w)).symm)
theorem cm_2 (s : CS) (v : Nat → Int32) (w : Nat → Int64) : cs_set_rnd (cs_set_foundX s v) w = cs_set_foundX (cs_set_rnd s w) v := cs_ext (((cs_g_seed_rnd (cs_set_foundX s v) w).trans (cs_g_seed_foundX s v)).trans ((cs_g_seed_foundX (cs_set_rnd s w) v).trans (cs_g_seed_rnd s w)).symm) (((cs_g_figs_rnd (cs_set_foundX s v) w).trans (cs_g_figs_foundX s v)).trans ((cs_g_figs_foundX (cs_set_rnd s w) v).trans (cs_g_figs_rnd s w)).symm) (((cs_g_psize_rnd (cs_set_foundX s v) w).trans (cs_g_psize_foundX s v)).trans ((cs_g_psize_foundX (cs_set_rnd s w) v).trans (cs_g_psize_rnd s w)).symm) (((cs_g_kinds_rnd (cs_set_foundX s v) w).trans (cs_g_kinds_foundX s v)).trans ((cs_g_kinds_foundX (cs_set_rnd s w) v).trans (cs_g_kinds_rnd s w)).symm) (((cs_g_srcs_rnd (cs_set_foundX s v) w).trans (cs_g_srcs_foundX s v)).trans ((cs_g_srcs_foundX (cs_set_rnd s w) v).trans (cs_g_srcs_rnd s w)).symm) (((cs_g_pts_rnd (cs_set_foundX s v) w).trans (cs_g_pts_foundX s v)).trans ((cs_g_pts_foundX (cs_set_rnd s w) v).trans (cs_g_pts_rnd s w)).symm) (((cs_g_known_rnd (cs_set_foundX s v) w).trans (cs_g_known_foundX s v)).trans ((cs_g_known_foundX (cs_set_rnd s w) v).trans (cs_g_known_rnd s w)).symm) (((cs_g_leads_rnd (cs_set_foundX s v) w).trans (cs_g_leads_foundX s v)).trans ((cs_g_leads_foundX (cs_set_rnd s w) v).trans (cs_g_leads_rnd s w)).symm) (((cs_g_areas_rnd (cs_set_foundX s v) w).trans (cs_g_areas_foundX s v)).trans ((cs_g_areas_foundX (cs_set_rnd s w) v).trans (cs_g_areas_rnd s w)).symm) (((cs_g_stand_rnd (cs_set_foundX s v) w).trans (cs_g_stand_foundX s v)).trans ((cs_g_stand_foundX (cs_set_rnd s w) v).trans (cs_g_stand_rnd s w)).symm) (((cs_g_dsize_rnd (cs_set_foundX s v) w).trans (cs_g_dsize_foundX s v)).trans ((cs_g_dsize_foundX (cs_set_rnd s w) v).trans (cs_g_dsize_rnd s w)).symm) (((cs_g_divr_rnd (cs_set_foundX s v) w).trans (cs_g_divr_foundX s v)).trans ((cs_g_divr_foundX (cs_set_rnd s w) v).trans (cs_g_divr_rnd s w)).symm) (((cs_g_invs_rnd (cs_set_foundX s v) w).trans (cs_g_invs_foundX s v)).trans ((cs_g_invs_foundX (cs_set_rnd s w) v).trans (cs_g_invs_rnd s w)).symm) (((cs_g_fx_rnd (cs_set_foundX s v) w).trans (cs_g_fx_foundX s v)).trans ((cs_g_fx_foundX (cs_set_rnd s w) v).trans (cs_g_fx_rnd s w)).symm) (((cs_g_fy_rnd (cs_set_foundX s v) w).trans (cs_g_fy_foundX s v)).trans ((cs_g_fy_foundX (cs_set_rnd s w) v).trans (cs_g_fy_rnd s w)).symm) (((cs_g_made_rnd (cs_set_foundX s v) w).trans (cs_g_made_foundX s v)).trans ((cs_g_made_foundX (cs_set_rnd s w) v).trans (cs_g_made_rnd s w)).symm) (((cs_g_fallen_rnd (cs_set_foundX s v) w).trans (cs_g_fallen_foundX s v)).trans ((cs_g_fallen_foundX (cs_set_rnd s w) v).trans (cs_g_fallen_rnd s w)).symm) ((cs_g_rnd_rnd (cs_set_foundX s v) w).trans ((cs_g_rnd_foundX (cs_set_rnd s w) v).trans (cs_g_rnd_rnd s w)).symm) (((cs_g_foundX_rnd (cs_set_foundX s v) w).trans (cs_g_foundX_foundX s v)).trans (cs_g_foundX_foundX (cs_set_rnd s w) v).symm) (((cs_g_foundY_rnd (cs_set_foundX s v) w).trans (cs_g_foundY_foundX s v)).trans ((cs_g_foundY_foundX (cs_set_rnd s w) v).trans (cs_g_foundY_rnd s w)).symm) (((cs_g_items_rnd (cs_set_foundX s v) w).trans (cs_g_items_foundX s v)).trans ((cs_g_items_foundX (cs_set_rnd s w) v).trans (cs_g_items_rnd s w)).symm) (((cs_g_lsize_rnd (cs_set_foundX s v) w).trans (cs_g_lsize_foundX s v)).trans ((cs_g_lsize_foundX (cs_set_rnd s w) v).trans (cs_g_lsize_rnd s w)).symm)
theorem cm_4 (s : CS) (v : Nat → Int32) (w : Nat → Int32) : cs_set_foundX (cs_set_foundY s v) w = cs_set_foundY (cs_set_foundX s w) v := cs_ext (((cs_g_seed_foundX (cs_set_foundY s v) w).trans (cs_g_seed_foundY s v)).trans ((cs_g_seed_foundY (cs_set_foundX s w) v).trans (cs_g_seed_foundX s w)).symm) (((cs_g_figs_foundX (cs_set_foundY s v) w).trans (cs_g_figs_foundY s v)).trans ((cs_g_figs_foundY (cs_set_foundX s w) v).trans (cs_g_figs_foundX s w)).symm) (((cs_g_psize_foundX (cs_set_foundY s v) w).trans (cs_g_psize_foundY s v)).trans ((cs_g_psize_foundY (cs_set_foundX s w) v).trans (cs_g_psize_foundX s w)).symm) (((cs_g_kinds_foundX (cs_set_foundY s v) w).trans (cs_g_kinds_foundY s v)).trans ((cs_g_kinds_foundY (cs_set_foundX s w) v).trans (cs_g_kinds_foundX s w)).symm) (((cs_g_srcs_foundX (cs_set_foundY s v) w).trans (cs_g_srcs_foundY s v)).trans ((cs_g_srcs_foundY (cs_set_foundX s w) v).trans (cs_g_srcs_foundX s w)).symm) (((cs_g_pts_foundX (cs_set_foundY s v) w).trans (cs_g_pts_foundY s v)).trans ((cs_g_pts_foundY (cs_set_foundX s w) v).trans (cs_g_pts_foundX s w)).symm) (((cs_g_known_foundX (cs_set_foundY s v) w).trans (cs_g_known_foundY s v)).trans ((cs_g_known_foundY (cs_set_foundX s w) v).trans (cs_g_known_foundX s w)).symm) (((cs_g_leads_foundX (cs_set_foundY s v) w).trans (cs_g_leads_foundY s v)).trans ((cs_g_leads_foundY (cs_set_foundX s w) v).trans (cs_g_leads_foundX s w)).symm) (((cs_g_areas_foundX (cs_set_foundY s v) w).trans (cs_g_areas_foundY s v)).trans ((cs_g_areas_foundY (cs_set_foundX s w) v).trans (cs_g_areas_foundX s w)).symm) (((cs_g_stand_foundX (cs_set_foundY s v) w).trans (cs_g_stand_foundY s v)).trans ((cs_g_stand_foundY (cs_set_foundX s w) v).trans (cs_g_stand_foundX s w)).symm) (((cs_g_dsize_foundX (cs_set_foundY s v) w).trans (cs_g_dsize_foundY s v)).trans ((cs_g_dsize_foundY (cs_set_foundX s w) v).trans (cs_g_dsize_foundX s w)).symm) (((cs_g_divr_foundX (cs_set_foundY s v) w).trans (cs_g_divr_foundY s v)).trans ((cs_g_divr_foundY (cs_set_foundX s w) v).trans (cs_g_divr_foundX s w)).symm) (((cs_g_invs_foundX (cs_set_foundY s v) w).trans (cs_g_invs_foundY s v)).trans ((cs_g_invs_foundY (cs_set_foundX s w) v).trans (cs_g_invs_foundX s w)).symm) (((cs_g_fx_foundX (cs_set_foundY s v) w).trans (cs_g_fx_foundY s v)).trans ((cs_g_fx_foundY (cs_set_foundX s w) v).trans (cs_g_fx_foundX s w)).symm) (((cs_g_fy_foundX (cs_set_foundY s v) w).trans (cs_g_fy_foundY s v)).trans ((cs_g_fy_foundY (cs_set_foundX s w) v).trans (cs_g_fy_foundX s w)).symm) (((cs_g_made_foundX (cs_set_foundY s v) w).trans (cs_g_made_foundY s v)).trans ((cs_g_made_foundY (cs_set_foundX s w) v).trans (cs_g_made_foundX s w)).symm) (((cs_g_fallen_foundX (cs_set_foundY s v) w).trans (cs_g_fallen_foundY s v)).trans ((cs_g_fallen_foundY (cs_set_foundX s w) v).trans (cs_g_fallen_foundX s w)).symm) (((cs_g_rnd_foundX (cs_set_foundY s v) w).trans (cs_g_rnd_foundY s v)).trans ((cs_g_rnd_foundY (cs_set_foundX s w) v).trans (cs_g_rnd_foundX s w)).symm) ((cs_g_foundX_foundX (cs_set_foundY s v) w).trans ((cs_g_foundX_foundY (cs_set_foundX s w) v).trans (cs_g_foundX_foundX s w)).symm) (((cs_g_foundY_foundX (cs_set_foundY s v) w).trans (cs_g_foundY_foundY s v)).trans (cs_g_foundY_foundY (cs_set_foundX s w) v).symm) (((cs_g_items_foundX (cs_set_foundY s v) w).trans (cs_g_items_foundY s v)).trans ((cs_g_items_foundY (cs_set_foundX s w) v).trans (cs_g_items_foundX s w)).symm) (((cs_g_lsize_foundX (cs_set_foundY s v) w).trans (cs_g_lsize_foundY s v)).trans ((cs_g_lsize_foundY (cs_set_foundX s w) v).trans (cs_g_lsize_foundX s w)).symm)
