/-! every call keeps the invariant -/
theorem pure_ops : OPS (IG GG) := ⟨ig_skip gg_ok, o_bar, o_strip, o_line, o_wear, o_cut, o_thing, o_heat, o_hang, o_strike, o_hook, o_brick, o_shift, o_flag, o_wave, o_cue, o_hush, o_go, o_undo gg_ok, o_tell gg_ok, o_forge gg_ok, o_clear gg_ok, o_check, o_at, o_of, o_barOf, o_load, o_share, o_strength, o_even, o_least, o_stop, o_cueOf, o_told, o_status gg_ok⟩
