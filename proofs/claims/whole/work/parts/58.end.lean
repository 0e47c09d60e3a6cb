/-! the claim -/
theorem i_vc : Claimed_1_1 ∧ Claimed_1_2 := i_vcJ HX_type_ok HX_set_ok HX_store_ok HX_find_ok HX_seek_ok HX_move_ok HX_scan_ok HX_current_ok HX_get_ok HX_modify_ok HX_connect_ok HX_disconnect_ok HX_reconnect_ok HX_erase_ok HX_members_ok HX_owner_ok HX_keep_ok HX_rollBack_ok HX_count_ok HX_none_ok JJ_0
