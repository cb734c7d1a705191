/-! WHAT THE TABLES SAY of the law's own methods -/
theorem tw_314 : Cond.methodLink RL 26 yX8_setUp ∈ lw_g := in_g 314 (by decide +kernel) (by decide +kernel)
theorem tw_351 : Cond.methodLink RL 30 yX8_nozzle ∈ lw_g := in_g 351 (by decide +kernel) (by decide +kernel)
theorem tw_365 : Cond.methodLink RL 34 yX8_pump ∈ lw_g := in_g 365 (by decide +kernel) (by decide +kernel)
theorem tw_369 : Cond.methodLink RL 37 yX8_set ∈ lw_g := in_g 369 (by decide +kernel) (by decide +kernel)
theorem tw_373 : Cond.methodLink RL 12 yL_cell ∈ lw_g := in_g 373 (by decide +kernel) (by decide +kernel)
theorem tw_377 : Cond.methodLink RL 22 yL_up ∈ lw_g := in_g 377 (by decide +kernel) (by decide +kernel)
theorem tw_380 : Cond.constant RL 8 2147483647 ∈ lw_g := in_g 380 (by decide +kernel) (by decide +kernel)
theorem tw_381 : Cond.methodLink RL 40 yL_act ∈ lw_g := in_g 381 (by decide +kernel) (by decide +kernel)
theorem tw_384 : Cond.methodLink RL 60 yL_ticks ∈ lw_g := in_g 384 (by decide +kernel) (by decide +kernel)
theorem tw_387 : Cond.methodLink RL 63 yX8_state ∈ lw_g := in_g 387 (by decide +kernel) (by decide +kernel)
theorem tw_403 : Cond.methodLink RL 75 yX8_spray ∈ lw_g := in_g 403 (by decide +kernel) (by decide +kernel)
theorem tw_407 : Cond.methodLink RL 84 yX8_pressure ∈ lw_g := in_g 407 (by decide +kernel) (by decide +kernel)
theorem tw_411 : Cond.methodLink RL 87 yX8_tick ∈ lw_g := in_g 411 (by decide +kernel) (by decide +kernel)
theorem tw_517 : Cond.methodLink RL 90 yL_wind ∈ lw_g := in_g 517 (by decide +kernel) (by decide +kernel)
theorem tw_520 : Cond.constantLong RL 93 1000000 ∈ lw_g := in_g 520 (by decide +kernel) (by decide +kernel)
theorem tw_521 : Cond.constant RL 95 100000 ∈ lw_g := in_g 521 (by decide +kernel) (by decide +kernel)
theorem tw_522 : Cond.methodLink RL 66 yX8_cue ∈ lw_g := in_g 522 (by decide +kernel) (by decide +kernel)
theorem tw_537 : Cond.methodLink RL 69 yX8_part ∈ lw_g := in_g 537 (by decide +kernel) (by decide +kernel)
theorem tw_546 : Cond.methodLink RL 72 yX8_command ∈ lw_g := in_g 546 (by decide +kernel) (by decide +kernel)
theorem tw_551 : Cond.methodLink RL 78 yX8_wind ∈ lw_g := in_g 551 (by decide +kernel) (by decide +kernel)
theorem tw_555 : Cond.methodLink RL 81 yX8_move ∈ lw_g := in_g 555 (by decide +kernel) (by decide +kernel)
theorem tw_570 : Cond.methodLink RL 44 yL_ordered ∈ lw_g := in_g 570 (by decide +kernel) (by decide +kernel)
theorem tw_573 : Cond.methodLink RL 48 yL_comesTrue ∈ lw_g := in_g 573 (by decide +kernel) (by decide +kernel)
theorem tw_576 : Cond.methodLink RL 96 yX8_ahead ∈ lw_g := in_g 576 (by decide +kernel) (by decide +kernel)
theorem tw_638 : Cond.methodLink RL 99 yX8_save ∈ lw_g := in_g 638 (by decide +kernel) (by decide +kernel)
theorem tw_646 : Cond.methodLink RL 102 yX8_restore ∈ lw_g := in_g 646 (by decide +kernel) (by decide +kernel)
theorem tw_650 : Cond.methodLink RL 51 yL_delayed ∈ lw_g := in_g 650 (by decide +kernel) (by decide +kernel)
theorem tw_653 : Cond.methodLink RL 105 yX8_delay ∈ lw_g := in_g 653 (by decide +kernel) (by decide +kernel)
theorem tw_665 : Cond.methodLink RL 54 yL_cutBack ∈ lw_g := in_g 665 (by decide +kernel) (by decide +kernel)
theorem tw_668 : Cond.methodLink RL 108 yX8_safeCut ∈ lw_g := in_g 668 (by decide +kernel) (by decide +kernel)
theorem tw_676 : Cond.methodLink RL 57 yL_kept ∈ lw_g := in_g 676 (by decide +kernel) (by decide +kernel)
theorem tw_679 : Cond.methodLink RL 111 yX8_rewind ∈ lw_g := in_g 679 (by decide +kernel) (by decide +kernel)
theorem tw_684 : Cond.methodLink RL 18 yL_refused ∈ lw_g := in_g 684 (by decide +kernel) (by decide +kernel)
theorem tw_687 : Cond.constant RL 115 1000000 ∈ lw_g := in_g 687 (by decide +kernel) (by decide +kernel)
theorem tw_688 : Cond.constant RL 116 100001 ∈ lw_g := in_g 688 (by decide +kernel) (by decide +kernel)
theorem tw_689 : Cond.methodLink RL 117 yX8_remove ∈ lw_g := in_g 689 (by decide +kernel) (by decide +kernel)
theorem tw_694 : Cond.methodLink RL 120 yX8_load ∈ lw_g := in_g 694 (by decide +kernel) (by decide +kernel)
theorem tw_698 : Cond.constantFloat RX8 157 3212836864 ∈ lw_g := in_g 698 (by decide +kernel) (by decide +kernel)
theorem tw_699 : Cond.constantFloat RL 124 3212836864 ∈ lw_g := in_g 699 (by decide +kernel) (by decide +kernel)
theorem tw_700 : Cond.methodLink RL 125 yX8_say ∈ lw_g := in_g 700 (by decide +kernel) (by decide +kernel)
theorem tw_708 : Cond.methodLink RL 128 yX8_read ∈ lw_g := in_g 708 (by decide +kernel) (by decide +kernel)
set_option maxRecDepth 100000 in
theorem wyL_cell : Wy yL_cell cL_cell 2 (some .int) 2 := ⟨in_g 375 rfl (by decide +kernel), in_g 19 (by decide +kernel) (by decide +kernel), by decide +kernel, by decide +kernel, by decide +kernel⟩
theorem tsL_cell : Cond.static yL_cell ∈ lw_g := in_g 374 (by decide +kernel) (by decide +kernel)
theorem wyX8_load : Wy yX8_load cX8_load 3 (some .float) 1 := ⟨in_g 697 (by decide +kernel) (by decide +kernel), in_g 20 (by decide +kernel) (by decide +kernel), by decide +kernel, by decide +kernel, by decide +kernel⟩
theorem tvX8_load_i : Cond.instanceMethod yX8_load ∈ lw_g := in_g 695 (by decide +kernel) (by decide +kernel)
theorem tvX8_load_s : Cond.selects yX8_load.cls yX8_load yX8_load ∈ lw_g := in_g 696 (by decide +kernel) (by decide +kernel)
set_option maxRecDepth 100000 in
theorem wyL_up : Wy yL_up cL_up 2 ((some FieldType.int)) 2 := ⟨in_g 379 rfl (by decide +kernel), in_g 19 (by decide +kernel) (by decide +kernel), by decide +kernel, by decide +kernel, by decide +kernel⟩
theorem tsL_up : Cond.static yL_up ∈ lw_g := in_g 378 (by decide +kernel) (by decide +kernel)
set_option maxRecDepth 100000 in
theorem wyL_wind : Wy yL_wind cL_wind 6 ((some FieldType.boolean)) 3 := ⟨in_g 519 rfl (by decide +kernel), in_g 19 (by decide +kernel) (by decide +kernel), by decide +kernel, by decide +kernel, by decide +kernel⟩
theorem tsL_wind : Cond.static yL_wind ∈ lw_g := in_g 518 (by decide +kernel) (by decide +kernel)
set_option maxRecDepth 100000 in
theorem wyL_ticks : Wy yL_ticks cL_ticks 21 ((some FieldType.boolean)) 2 := ⟨in_g 386 rfl (by decide +kernel), in_g 19 (by decide +kernel) (by decide +kernel), by decide +kernel, by decide +kernel, by decide +kernel⟩
theorem tsL_ticks : Cond.static yL_ticks ∈ lw_g := in_g 385 (by decide +kernel) (by decide +kernel)
set_option maxRecDepth 100000 in
theorem wyL_act : Wy yL_act cL_act 10 ((some FieldType.boolean)) 4 := ⟨in_g 383 rfl (by decide +kernel), in_g 19 (by decide +kernel) (by decide +kernel), by decide +kernel, by decide +kernel, by decide +kernel⟩
theorem tsL_act : Cond.static yL_act ∈ lw_g := in_g 382 (by decide +kernel) (by decide +kernel)
set_option maxRecDepth 100000 in
theorem wyL_comesTrue : Wy yL_comesTrue cL_comesTrue 18 ((some FieldType.boolean)) 2 := ⟨in_g 575 rfl (by decide +kernel), in_g 19 (by decide +kernel) (by decide +kernel), by decide +kernel, by decide +kernel, by decide +kernel⟩
theorem tsL_comesTrue : Cond.static yL_comesTrue ∈ lw_g := in_g 574 (by decide +kernel) (by decide +kernel)
set_option maxRecDepth 100000 in
theorem wyL_cutBack : Wy yL_cutBack cL_cutBack 6 ((some FieldType.boolean)) 2 := ⟨in_g 667 rfl (by decide +kernel), in_g 19 (by decide +kernel) (by decide +kernel), by decide +kernel, by decide +kernel, by decide +kernel⟩
theorem tsL_cutBack : Cond.static yL_cutBack ∈ lw_g := in_g 666 (by decide +kernel) (by decide +kernel)
set_option maxRecDepth 100000 in
theorem wyL_delayed : Wy yL_delayed cL_delayed 11 ((some FieldType.boolean)) 2 := ⟨in_g 652 rfl (by decide +kernel), in_g 19 (by decide +kernel) (by decide +kernel), by decide +kernel, by decide +kernel, by decide +kernel⟩
theorem tsL_delayed : Cond.static yL_delayed ∈ lw_g := in_g 651 (by decide +kernel) (by decide +kernel)
set_option maxRecDepth 100000 in
theorem wyL_kept : Wy yL_kept cL_kept 9 ((some FieldType.boolean)) 2 := ⟨in_g 678 rfl (by decide +kernel), in_g 19 (by decide +kernel) (by decide +kernel), by decide +kernel, by decide +kernel, by decide +kernel⟩
theorem tsL_kept : Cond.static yL_kept ∈ lw_g := in_g 677 (by decide +kernel) (by decide +kernel)
set_option maxRecDepth 100000 in
theorem wyL_ordered : Wy yL_ordered cL_ordered 4 ((some FieldType.boolean)) 1 := ⟨in_g 572 rfl (by decide +kernel), in_g 19 (by decide +kernel) (by decide +kernel), by decide +kernel, by decide +kernel, by decide +kernel⟩
theorem tsL_ordered : Cond.static yL_ordered ∈ lw_g := in_g 571 (by decide +kernel) (by decide +kernel)
set_option maxRecDepth 100000 in
theorem wyL_refused : Wy yL_refused cL_refused 3 ((some FieldType.boolean)) 2 := ⟨in_g 686 rfl (by decide +kernel), in_g 19 (by decide +kernel) (by decide +kernel), by decide +kernel, by decide +kernel, by decide +kernel⟩
theorem tsL_refused : Cond.static yL_refused ∈ lw_g := in_g 685 (by decide +kernel) (by decide +kernel)
theorem ta_int : Cond.arrayClass (newarray.typeOf .int) ∈ lw_g := in_g 83 (by decide +kernel) (by decide +kernel)
theorem ta_long : Cond.arrayClass (newarray.typeOf .long) ∈ lw_g := in_g 569 (by decide +kernel) (by decide +kernel)
theorem tw_cell_c : Cond.constant RL 7 73244475 ∈ lw_g := in_g 376 (by decide +kernel) (by decide +kernel)
theorem tw_load_f : Cond.constantFloat RX8 157 3212836864 ∈ lw_g := tw_698
theorem tw_load_w : Cond.methodLink RX8 36 yX8_within ∈ lw_g := tw_318
