set_option maxRecDepth 100000 in
theorem tw_0 : Cond.initialized RL ∈ lw_good := mw_tw 0 (by decide +kernel) (by decide +kernel)
set_option maxRecDepth 100000 in
theorem tw_17 : Cond.classLink RL 8 RX8 ∈ lw_good := mw_tw 17 (by decide +kernel) (by decide +kernel)
set_option maxRecDepth 100000 in
theorem tw_18 : Cond.instantiable RX8 14 ∈ lw_good := mw_tw 18 (by decide +kernel) (by decide +kernel)
set_option maxRecDepth 100000 in
theorem tw_19 : Cond.methodLink RL 44 yX8_init ∈ lw_good := mw_tw 19 (by decide +kernel) (by decide +kernel)
set_option maxRecDepth 100000 in
theorem tw_20 : Cond.instanceMethod yX8_init ∈ lw_good := mw_tw 20 (by decide +kernel) (by decide +kernel)
set_option maxRecDepth 100000 in
theorem tw_21 : Cond.code yX8_init cX8_init 8 none ∈ lw_good := mw_tw 21 (by decide +kernel) (by decide +kernel)
set_option maxRecDepth 100000 in
theorem tw_237 : Cond.methodLink RL 50 yX8_write ∈ lw_good := mw_tw 237 (by decide +kernel) (by decide +kernel)
set_option maxRecDepth 100000 in
theorem tw_238 : Cond.instanceMethod yX8_write ∈ lw_good := mw_tw 238 (by decide +kernel) (by decide +kernel)
set_option maxRecDepth 100000 in
theorem tw_239 : Cond.selects RX8 yX8_write yX8_write ∈ lw_good := mw_tw 239 (by decide +kernel) (by decide +kernel)
set_option maxRecDepth 100000 in
theorem tw_240 : Cond.code yX8_write cX8_write 2 (some .boolean) ∈ lw_good := mw_tw 240 (by decide +kernel) (by decide +kernel)
set_option maxRecDepth 100000 in
theorem tw_245 : Cond.methodLink RL 55 yX8_advance ∈ lw_good := mw_tw 245 (by decide +kernel) (by decide +kernel)
set_option maxRecDepth 100000 in
theorem tw_246 : Cond.instanceMethod yX8_advance ∈ lw_good := mw_tw 246 (by decide +kernel) (by decide +kernel)
set_option maxRecDepth 100000 in
theorem tw_247 : Cond.selects RX8 yX8_advance yX8_advance ∈ lw_good := mw_tw 247 (by decide +kernel) (by decide +kernel)
set_option maxRecDepth 100000 in
theorem tw_248 : Cond.code yX8_advance cX8_advance 2 (some .int) ∈ lw_good := mw_tw 248 (by decide +kernel) (by decide +kernel)
set_option maxRecDepth 100000 in
theorem tw_249 : Cond.methodLink RL 66 yX8_begin ∈ lw_good := mw_tw 249 (by decide +kernel) (by decide +kernel)
set_option maxRecDepth 100000 in
theorem tw_250 : Cond.instanceMethod yX8_begin ∈ lw_good := mw_tw 250 (by decide +kernel) (by decide +kernel)
set_option maxRecDepth 100000 in
theorem tw_251 : Cond.selects RX8 yX8_begin yX8_begin ∈ lw_good := mw_tw 251 (by decide +kernel) (by decide +kernel)
set_option maxRecDepth 100000 in
theorem tw_252 : Cond.code yX8_begin cX8_begin 2 (some .boolean) ∈ lw_good := mw_tw 252 (by decide +kernel) (by decide +kernel)
set_option maxRecDepth 100000 in
theorem tw_260 : Cond.methodLink RL 70 yX8_commit ∈ lw_good := mw_tw 260 (by decide +kernel) (by decide +kernel)
set_option maxRecDepth 100000 in
theorem tw_261 : Cond.instanceMethod yX8_commit ∈ lw_good := mw_tw 261 (by decide +kernel) (by decide +kernel)
set_option maxRecDepth 100000 in
theorem tw_262 : Cond.selects RX8 yX8_commit yX8_commit ∈ lw_good := mw_tw 262 (by decide +kernel) (by decide +kernel)
set_option maxRecDepth 100000 in
theorem tw_263 : Cond.code yX8_commit cX8_commit 7 (some .int) ∈ lw_good := mw_tw 263 (by decide +kernel) (by decide +kernel)
set_option maxRecDepth 100000 in
theorem tw_390 : Cond.methodLink RL 75 yX8_flush ∈ lw_good := mw_tw 390 (by decide +kernel) (by decide +kernel)
set_option maxRecDepth 100000 in
theorem tw_391 : Cond.instanceMethod yX8_flush ∈ lw_good := mw_tw 391 (by decide +kernel) (by decide +kernel)
set_option maxRecDepth 100000 in
theorem tw_392 : Cond.selects RX8 yX8_flush yX8_flush ∈ lw_good := mw_tw 392 (by decide +kernel) (by decide +kernel)
set_option maxRecDepth 100000 in
theorem tw_393 : Cond.code yX8_flush cX8_flush 3 (some .int) ∈ lw_good := mw_tw 393 (by decide +kernel) (by decide +kernel)
set_option maxRecDepth 100000 in
theorem tw_434 : Cond.methodLink RL 87 yX8_profile ∈ lw_good := mw_tw 434 (by decide +kernel) (by decide +kernel)
set_option maxRecDepth 100000 in
theorem tw_435 : Cond.instanceMethod yX8_profile ∈ lw_good := mw_tw 435 (by decide +kernel) (by decide +kernel)
set_option maxRecDepth 100000 in
theorem tw_436 : Cond.selects RX8 yX8_profile yX8_profile ∈ lw_good := mw_tw 436 (by decide +kernel) (by decide +kernel)
set_option maxRecDepth 100000 in
theorem tw_437 : Cond.code yX8_profile cX8_profile 5 (some .int) ∈ lw_good := mw_tw 437 (by decide +kernel) (by decide +kernel)
set_option maxRecDepth 100000 in
theorem tw_477 : Cond.methodLink RL 103 yX8_output ∈ lw_good := mw_tw 477 (by decide +kernel) (by decide +kernel)
set_option maxRecDepth 100000 in
theorem tw_478 : Cond.instanceMethod yX8_output ∈ lw_good := mw_tw 478 (by decide +kernel) (by decide +kernel)
set_option maxRecDepth 100000 in
theorem tw_479 : Cond.selects RX8 yX8_output yX8_output ∈ lw_good := mw_tw 479 (by decide +kernel) (by decide +kernel)
set_option maxRecDepth 100000 in
theorem tw_480 : Cond.code yX8_output cX8_output 2 (some .int) ∈ lw_good := mw_tw 480 (by decide +kernel) (by decide +kernel)
set_option maxRecDepth 100000 in
theorem tw_485 : Cond.methodLink RL 107 yX8_state ∈ lw_good := mw_tw 485 (by decide +kernel) (by decide +kernel)
set_option maxRecDepth 100000 in
theorem tw_486 : Cond.instanceMethod yX8_state ∈ lw_good := mw_tw 486 (by decide +kernel) (by decide +kernel)
set_option maxRecDepth 100000 in
theorem tw_487 : Cond.selects RX8 yX8_state yX8_state ∈ lw_good := mw_tw 487 (by decide +kernel) (by decide +kernel)
set_option maxRecDepth 100000 in
theorem tw_488 : Cond.code yX8_state cX8_state 2 (some .int) ∈ lw_good := mw_tw 488 (by decide +kernel) (by decide +kernel)
set_option maxRecDepth 100000 in
theorem tw_493 : Cond.methodLink RL 111 yX8_threshold ∈ lw_good := mw_tw 493 (by decide +kernel) (by decide +kernel)
set_option maxRecDepth 100000 in
theorem tw_494 : Cond.instanceMethod yX8_threshold ∈ lw_good := mw_tw 494 (by decide +kernel) (by decide +kernel)
set_option maxRecDepth 100000 in
theorem tw_495 : Cond.selects RX8 yX8_threshold yX8_threshold ∈ lw_good := mw_tw 495 (by decide +kernel) (by decide +kernel)
set_option maxRecDepth 100000 in
theorem tw_496 : Cond.code yX8_threshold cX8_threshold 3 (some .int) ∈ lw_good := mw_tw 496 (by decide +kernel) (by decide +kernel)
set_option maxRecDepth 100000 in
theorem tw_497 : Cond.methodLink RL 116 yX8_buffered ∈ lw_good := mw_tw 497 (by decide +kernel) (by decide +kernel)
set_option maxRecDepth 100000 in
theorem tw_498 : Cond.instanceMethod yX8_buffered ∈ lw_good := mw_tw 498 (by decide +kernel) (by decide +kernel)
set_option maxRecDepth 100000 in
theorem tw_499 : Cond.selects RX8 yX8_buffered yX8_buffered ∈ lw_good := mw_tw 499 (by decide +kernel) (by decide +kernel)
set_option maxRecDepth 100000 in
theorem tw_500 : Cond.code yX8_buffered cX8_buffered 2 (some .int) ∈ lw_good := mw_tw 500 (by decide +kernel) (by decide +kernel)
set_option maxRecDepth 100000 in
theorem tw_501 : Cond.methodLink RL 120 yX8_count ∈ lw_good := mw_tw 501 (by decide +kernel) (by decide +kernel)
set_option maxRecDepth 100000 in
theorem tw_502 : Cond.instanceMethod yX8_count ∈ lw_good := mw_tw 502 (by decide +kernel) (by decide +kernel)
set_option maxRecDepth 100000 in
theorem tw_503 : Cond.selects RX8 yX8_count yX8_count ∈ lw_good := mw_tw 503 (by decide +kernel) (by decide +kernel)
set_option maxRecDepth 100000 in
theorem tw_504 : Cond.code yX8_count cX8_count 2 (some .int) ∈ lw_good := mw_tw 504 (by decide +kernel) (by decide +kernel)
set_option maxRecDepth 100000 in
theorem tw_522 : Cond.methodLink RL 124 yX8_lost ∈ lw_good := mw_tw 522 (by decide +kernel) (by decide +kernel)
set_option maxRecDepth 100000 in
theorem tw_523 : Cond.instanceMethod yX8_lost ∈ lw_good := mw_tw 523 (by decide +kernel) (by decide +kernel)
set_option maxRecDepth 100000 in
theorem tw_524 : Cond.selects RX8 yX8_lost yX8_lost ∈ lw_good := mw_tw 524 (by decide +kernel) (by decide +kernel)
set_option maxRecDepth 100000 in
theorem tw_525 : Cond.code yX8_lost cX8_lost 2 (some .int) ∈ lw_good := mw_tw 525 (by decide +kernel) (by decide +kernel)
set_option maxRecDepth 100000 in
theorem tw_530 : Cond.methodLink RL 38 yL_cell ∈ lw_good := mw_tw 530 (by decide +kernel) (by decide +kernel)
set_option maxRecDepth 100000 in
theorem tw_531 : Cond.static yL_cell ∈ lw_good := mw_tw 531 (by decide +kernel) (by decide +kernel)
set_option maxRecDepth 100000 in
theorem tw_532 : Cond.code yL_cell cL_cell 2 (some .int) ∈ lw_good := mw_tw 532 (by decide +kernel) (by decide +kernel)
set_option maxRecDepth 100000 in
theorem tw_533 : Cond.methodLink RL 59 yL_type ∈ lw_good := mw_tw 533 (by decide +kernel) (by decide +kernel)
set_option maxRecDepth 100000 in
theorem tw_534 : Cond.static yL_type ∈ lw_good := mw_tw 534 (by decide +kernel) (by decide +kernel)
set_option maxRecDepth 100000 in
theorem tw_535 : Cond.codeWith yL_type cL_type 5 (some .int) [(0, 10, 13, 13), (0, 10, 17, 15)] ∈ lw_good := mw_tw 535 (by decide +kernel) (by decide +kernel)
set_option maxRecDepth 100000 in
theorem tw_536 : Cond.classLink RL 13 xA ∈ lw_good := mw_tw 536 (by decide +kernel) (by decide +kernel)
set_option maxRecDepth 100000 in
theorem tw_537 : Cond.classLink RL 15 xS ∈ lw_good := mw_tw 537 (by decide +kernel) (by decide +kernel)
set_option maxRecDepth 100000 in
theorem tw_538 : Cond.methodLink RL 7 yX8_type ∈ lw_good := mw_tw 538 (by decide +kernel) (by decide +kernel)
set_option maxRecDepth 100000 in
theorem tw_539 : Cond.instanceMethod yX8_type ∈ lw_good := mw_tw 539 (by decide +kernel) (by decide +kernel)
set_option maxRecDepth 100000 in
theorem tw_540 : Cond.selects RX8 yX8_type yX8_type ∈ lw_good := mw_tw 540 (by decide +kernel) (by decide +kernel)
set_option maxRecDepth 100000 in
theorem tw_541 : Cond.code yX8_type cX8_type 3 (some .int) ∈ lw_good := mw_tw 541 (by decide +kernel) (by decide +kernel)
set_option maxRecDepth 100000 in
theorem tw_624 : Cond.methodLink RL 79 yL_record ∈ lw_good := mw_tw 624 (by decide +kernel) (by decide +kernel)
set_option maxRecDepth 100000 in
theorem tw_625 : Cond.static yL_record ∈ lw_good := mw_tw 625 (by decide +kernel) (by decide +kernel)
set_option maxRecDepth 100000 in
theorem tw_626 : Cond.codeWith yL_record cL_record 3 (some .int) [(0, 8, 11, 15)] ∈ lw_good := mw_tw 626 (by decide +kernel) (by decide +kernel)
set_option maxRecDepth 100000 in
theorem tw_627 : Cond.methodLink RL 17 yX8_record ∈ lw_good := mw_tw 627 (by decide +kernel) (by decide +kernel)
set_option maxRecDepth 100000 in
theorem tw_628 : Cond.instanceMethod yX8_record ∈ lw_good := mw_tw 628 (by decide +kernel) (by decide +kernel)
set_option maxRecDepth 100000 in
theorem tw_629 : Cond.selects RX8 yX8_record yX8_record ∈ lw_good := mw_tw 629 (by decide +kernel) (by decide +kernel)
set_option maxRecDepth 100000 in
theorem tw_630 : Cond.code yX8_record cX8_record 1 (some .int) ∈ lw_good := mw_tw 630 (by decide +kernel) (by decide +kernel)
set_option maxRecDepth 100000 in
theorem tw_632 : Cond.methodLink RL 83 yL_settings ∈ lw_good := mw_tw 632 (by decide +kernel) (by decide +kernel)
set_option maxRecDepth 100000 in
theorem tw_633 : Cond.static yL_settings ∈ lw_good := mw_tw 633 (by decide +kernel) (by decide +kernel)
set_option maxRecDepth 100000 in
theorem tw_634 : Cond.codeWith yL_settings cL_settings 4 (some .int) [(0, 9, 12, 13), (0, 9, 15, 15)] ∈ lw_good := mw_tw 634 (by decide +kernel) (by decide +kernel)
set_option maxRecDepth 100000 in
theorem tw_635 : Cond.methodLink RL 21 yX8_settings ∈ lw_good := mw_tw 635 (by decide +kernel) (by decide +kernel)
set_option maxRecDepth 100000 in
theorem tw_636 : Cond.instanceMethod yX8_settings ∈ lw_good := mw_tw 636 (by decide +kernel) (by decide +kernel)
set_option maxRecDepth 100000 in
theorem tw_637 : Cond.selects RX8 yX8_settings yX8_settings ∈ lw_good := mw_tw 637 (by decide +kernel) (by decide +kernel)
set_option maxRecDepth 100000 in
theorem tw_638 : Cond.code yX8_settings cX8_settings 5 (some .int) ∈ lw_good := mw_tw 638 (by decide +kernel) (by decide +kernel)
set_option maxRecDepth 100000 in
theorem tw_641 : Cond.methodLink RL 91 yL_start ∈ lw_good := mw_tw 641 (by decide +kernel) (by decide +kernel)
set_option maxRecDepth 100000 in
theorem tw_642 : Cond.static yL_start ∈ lw_good := mw_tw 642 (by decide +kernel) (by decide +kernel)
set_option maxRecDepth 100000 in
theorem tw_643 : Cond.codeWith yL_start cL_start 4 (some .int) [(0, 9, 12, 13), (0, 9, 15, 15)] ∈ lw_good := mw_tw 643 (by decide +kernel) (by decide +kernel)
set_option maxRecDepth 100000 in
theorem tw_644 : Cond.methodLink RL 25 yX8_start ∈ lw_good := mw_tw 644 (by decide +kernel) (by decide +kernel)
set_option maxRecDepth 100000 in
theorem tw_645 : Cond.instanceMethod yX8_start ∈ lw_good := mw_tw 645 (by decide +kernel) (by decide +kernel)
set_option maxRecDepth 100000 in
theorem tw_646 : Cond.selects RX8 yX8_start yX8_start ∈ lw_good := mw_tw 646 (by decide +kernel) (by decide +kernel)
set_option maxRecDepth 100000 in
theorem tw_647 : Cond.code yX8_start cX8_start 3 (some .int) ∈ lw_good := mw_tw 647 (by decide +kernel) (by decide +kernel)
set_option maxRecDepth 100000 in
theorem tw_654 : Cond.methodLink RL 94 yL_stop ∈ lw_good := mw_tw 654 (by decide +kernel) (by decide +kernel)
set_option maxRecDepth 100000 in
theorem tw_655 : Cond.static yL_stop ∈ lw_good := mw_tw 655 (by decide +kernel) (by decide +kernel)
set_option maxRecDepth 100000 in
theorem tw_656 : Cond.codeWith yL_stop cL_stop 4 (some .int) [(0, 9, 12, 13), (0, 9, 15, 15)] ∈ lw_good := mw_tw 656 (by decide +kernel) (by decide +kernel)
set_option maxRecDepth 100000 in
theorem tw_657 : Cond.methodLink RL 28 yX8_stop ∈ lw_good := mw_tw 657 (by decide +kernel) (by decide +kernel)
set_option maxRecDepth 100000 in
theorem tw_658 : Cond.instanceMethod yX8_stop ∈ lw_good := mw_tw 658 (by decide +kernel) (by decide +kernel)
set_option maxRecDepth 100000 in
theorem tw_659 : Cond.selects RX8 yX8_stop yX8_stop ∈ lw_good := mw_tw 659 (by decide +kernel) (by decide +kernel)
set_option maxRecDepth 100000 in
theorem tw_660 : Cond.code yX8_stop cX8_stop 2 (some .int) ∈ lw_good := mw_tw 660 (by decide +kernel) (by decide +kernel)
set_option maxRecDepth 100000 in
theorem tw_670 : Cond.methodLink RL 97 yL_close ∈ lw_good := mw_tw 670 (by decide +kernel) (by decide +kernel)
set_option maxRecDepth 100000 in
theorem tw_671 : Cond.static yL_close ∈ lw_good := mw_tw 671 (by decide +kernel) (by decide +kernel)
set_option maxRecDepth 100000 in
theorem tw_672 : Cond.codeWith yL_close cL_close 4 (some .int) [(0, 16, 19, 13), (0, 16, 22, 15)] ∈ lw_good := mw_tw 672 (by decide +kernel) (by decide +kernel)
set_option maxRecDepth 100000 in
theorem tw_673 : Cond.methodLink RL 31 yX8_close ∈ lw_good := mw_tw 673 (by decide +kernel) (by decide +kernel)
set_option maxRecDepth 100000 in
theorem tw_674 : Cond.instanceMethod yX8_close ∈ lw_good := mw_tw 674 (by decide +kernel) (by decide +kernel)
set_option maxRecDepth 100000 in
theorem tw_675 : Cond.selects RX8 yX8_close yX8_close ∈ lw_good := mw_tw 675 (by decide +kernel) (by decide +kernel)
set_option maxRecDepth 100000 in
theorem tw_676 : Cond.code yX8_close cX8_close 4 (some .boolean) ∈ lw_good := mw_tw 676 (by decide +kernel) (by decide +kernel)
set_option maxRecDepth 100000 in
theorem tw_682 : Cond.methodLink RL 100 yL_dump ∈ lw_good := mw_tw 682 (by decide +kernel) (by decide +kernel)
set_option maxRecDepth 100000 in
theorem tw_683 : Cond.static yL_dump ∈ lw_good := mw_tw 683 (by decide +kernel) (by decide +kernel)
set_option maxRecDepth 100000 in
theorem tw_684 : Cond.codeWith yL_dump cL_dump 4 (some .int) [(0, 9, 12, 13), (0, 9, 15, 15)] ∈ lw_good := mw_tw 684 (by decide +kernel) (by decide +kernel)
set_option maxRecDepth 100000 in
theorem tw_685 : Cond.methodLink RL 35 yX8_dump ∈ lw_good := mw_tw 685 (by decide +kernel) (by decide +kernel)
set_option maxRecDepth 100000 in
theorem tw_686 : Cond.instanceMethod yX8_dump ∈ lw_good := mw_tw 686 (by decide +kernel) (by decide +kernel)
set_option maxRecDepth 100000 in
theorem tw_687 : Cond.selects RX8 yX8_dump yX8_dump ∈ lw_good := mw_tw 687 (by decide +kernel) (by decide +kernel)
set_option maxRecDepth 100000 in
theorem tw_688 : Cond.code yX8_dump cX8_dump 3 (some .int) ∈ lw_good := mw_tw 688 (by decide +kernel) (by decide +kernel)
set_option maxRecDepth 100000 in
theorem tw_717 : Cond.classLink RL 47 RX9 ∈ lw_good := mw_tw 717 (by decide +kernel) (by decide +kernel)
set_option maxRecDepth 100000 in
theorem tw_718 : Cond.instantiable RX9 39 ∈ lw_good := mw_tw 718 (by decide +kernel) (by decide +kernel)
set_option maxRecDepth 100000 in
theorem tw_719 : Cond.methodLink RL 49 yX9_init ∈ lw_good := mw_tw 719 (by decide +kernel) (by decide +kernel)
set_option maxRecDepth 100000 in
theorem tw_720 : Cond.instanceMethod yX9_init ∈ lw_good := mw_tw 720 (by decide +kernel) (by decide +kernel)
set_option maxRecDepth 100000 in
theorem tw_721 : Cond.code yX9_init cX9_init 4 none ∈ lw_good := mw_tw 721 (by decide +kernel) (by decide +kernel)
set_option maxRecDepth 100000 in
theorem tw_841 : Cond.methodLink RL 63 yX9_thrown ∈ lw_good := mw_tw 841 (by decide +kernel) (by decide +kernel)
set_option maxRecDepth 100000 in
theorem tw_842 : Cond.instanceMethod yX9_thrown ∈ lw_good := mw_tw 842 (by decide +kernel) (by decide +kernel)
set_option maxRecDepth 100000 in
theorem tw_843 : Cond.selects RX9 yX9_thrown yX9_thrown ∈ lw_good := mw_tw 843 (by decide +kernel) (by decide +kernel)
set_option maxRecDepth 100000 in
theorem tw_844 : Cond.code yX9_thrown cX9_thrown 1 (some .int) ∈ lw_good := mw_tw 844 (by decide +kernel) (by decide +kernel)
set_option maxRecDepth 100000 in
theorem tw_845 : Cond.methodLink RL 54 yX9_write ∈ lw_good := mw_tw 845 (by decide +kernel) (by decide +kernel)
set_option maxRecDepth 100000 in
theorem tw_846 : Cond.instanceMethod yX9_write ∈ lw_good := mw_tw 846 (by decide +kernel) (by decide +kernel)
set_option maxRecDepth 100000 in
theorem tw_847 : Cond.selects RX9 yX9_write yX9_write ∈ lw_good := mw_tw 847 (by decide +kernel) (by decide +kernel)
set_option maxRecDepth 100000 in
theorem tw_848 : Cond.code yX9_write cX9_write 2 (some .boolean) ∈ lw_good := mw_tw 848 (by decide +kernel) (by decide +kernel)
set_option maxRecDepth 100000 in
theorem tw_849 : Cond.methodLink RL 58 yX9_advance ∈ lw_good := mw_tw 849 (by decide +kernel) (by decide +kernel)
set_option maxRecDepth 100000 in
theorem tw_850 : Cond.instanceMethod yX9_advance ∈ lw_good := mw_tw 850 (by decide +kernel) (by decide +kernel)
set_option maxRecDepth 100000 in
theorem tw_851 : Cond.selects RX9 yX9_advance yX9_advance ∈ lw_good := mw_tw 851 (by decide +kernel) (by decide +kernel)
set_option maxRecDepth 100000 in
theorem tw_852 : Cond.code yX9_advance cX9_advance 2 (some .int) ∈ lw_good := mw_tw 852 (by decide +kernel) (by decide +kernel)
set_option maxRecDepth 100000 in
theorem tw_853 : Cond.methodLink RL 62 yX9_type ∈ lw_good := mw_tw 853 (by decide +kernel) (by decide +kernel)
set_option maxRecDepth 100000 in
theorem tw_854 : Cond.instanceMethod yX9_type ∈ lw_good := mw_tw 854 (by decide +kernel) (by decide +kernel)
set_option maxRecDepth 100000 in
theorem tw_855 : Cond.selects RX9 yX9_type yX9_type ∈ lw_good := mw_tw 855 (by decide +kernel) (by decide +kernel)
set_option maxRecDepth 100000 in
theorem tw_856 : Cond.code yX9_type cX9_type 3 (some .int) ∈ lw_good := mw_tw 856 (by decide +kernel) (by decide +kernel)
set_option maxRecDepth 100000 in
theorem tw_857 : Cond.methodLink RL 69 yX9_begin ∈ lw_good := mw_tw 857 (by decide +kernel) (by decide +kernel)
set_option maxRecDepth 100000 in
theorem tw_858 : Cond.instanceMethod yX9_begin ∈ lw_good := mw_tw 858 (by decide +kernel) (by decide +kernel)
set_option maxRecDepth 100000 in
theorem tw_859 : Cond.selects RX9 yX9_begin yX9_begin ∈ lw_good := mw_tw 859 (by decide +kernel) (by decide +kernel)
set_option maxRecDepth 100000 in
theorem tw_860 : Cond.code yX9_begin cX9_begin 2 (some .boolean) ∈ lw_good := mw_tw 860 (by decide +kernel) (by decide +kernel)
set_option maxRecDepth 100000 in
theorem tw_864 : Cond.methodLink RL 74 yX9_commit ∈ lw_good := mw_tw 864 (by decide +kernel) (by decide +kernel)
set_option maxRecDepth 100000 in
theorem tw_865 : Cond.instanceMethod yX9_commit ∈ lw_good := mw_tw 865 (by decide +kernel) (by decide +kernel)
set_option maxRecDepth 100000 in
theorem tw_866 : Cond.selects RX9 yX9_commit yX9_commit ∈ lw_good := mw_tw 866 (by decide +kernel) (by decide +kernel)
set_option maxRecDepth 100000 in
theorem tw_867 : Cond.code yX9_commit cX9_commit 16 (some .int) ∈ lw_good := mw_tw 867 (by decide +kernel) (by decide +kernel)
set_option maxRecDepth 100000 in
theorem tw_894 : Cond.methodLink RL 78 yX9_flush ∈ lw_good := mw_tw 894 (by decide +kernel) (by decide +kernel)
set_option maxRecDepth 100000 in
theorem tw_895 : Cond.instanceMethod yX9_flush ∈ lw_good := mw_tw 895 (by decide +kernel) (by decide +kernel)
set_option maxRecDepth 100000 in
theorem tw_896 : Cond.selects RX9 yX9_flush yX9_flush ∈ lw_good := mw_tw 896 (by decide +kernel) (by decide +kernel)
set_option maxRecDepth 100000 in
theorem tw_897 : Cond.code yX9_flush cX9_flush 3 (some .int) ∈ lw_good := mw_tw 897 (by decide +kernel) (by decide +kernel)
set_option maxRecDepth 100000 in
theorem tw_918 : Cond.methodLink RL 82 yX9_record ∈ lw_good := mw_tw 918 (by decide +kernel) (by decide +kernel)
set_option maxRecDepth 100000 in
theorem tw_919 : Cond.instanceMethod yX9_record ∈ lw_good := mw_tw 919 (by decide +kernel) (by decide +kernel)
set_option maxRecDepth 100000 in
theorem tw_920 : Cond.selects RX9 yX9_record yX9_record ∈ lw_good := mw_tw 920 (by decide +kernel) (by decide +kernel)
set_option maxRecDepth 100000 in
theorem tw_921 : Cond.code yX9_record cX9_record 1 (some .int) ∈ lw_good := mw_tw 921 (by decide +kernel) (by decide +kernel)
set_option maxRecDepth 100000 in
theorem tw_922 : Cond.methodLink RL 86 yX9_settings ∈ lw_good := mw_tw 922 (by decide +kernel) (by decide +kernel)
set_option maxRecDepth 100000 in
theorem tw_923 : Cond.instanceMethod yX9_settings ∈ lw_good := mw_tw 923 (by decide +kernel) (by decide +kernel)
set_option maxRecDepth 100000 in
theorem tw_924 : Cond.selects RX9 yX9_settings yX9_settings ∈ lw_good := mw_tw 924 (by decide +kernel) (by decide +kernel)
set_option maxRecDepth 100000 in
theorem tw_925 : Cond.code yX9_settings cX9_settings 4 (some .int) ∈ lw_good := mw_tw 925 (by decide +kernel) (by decide +kernel)
set_option maxRecDepth 100000 in
theorem tw_946 : Cond.methodLink RL 90 yX9_profile ∈ lw_good := mw_tw 946 (by decide +kernel) (by decide +kernel)
set_option maxRecDepth 100000 in
theorem tw_947 : Cond.instanceMethod yX9_profile ∈ lw_good := mw_tw 947 (by decide +kernel) (by decide +kernel)
set_option maxRecDepth 100000 in
theorem tw_948 : Cond.selects RX9 yX9_profile yX9_profile ∈ lw_good := mw_tw 948 (by decide +kernel) (by decide +kernel)
set_option maxRecDepth 100000 in
theorem tw_949 : Cond.code yX9_profile cX9_profile 8 (some .int) ∈ lw_good := mw_tw 949 (by decide +kernel) (by decide +kernel)
set_option maxRecDepth 100000 in
theorem tw_950 : Cond.methodLink RL 93 yX9_start ∈ lw_good := mw_tw 950 (by decide +kernel) (by decide +kernel)
set_option maxRecDepth 100000 in
theorem tw_951 : Cond.instanceMethod yX9_start ∈ lw_good := mw_tw 951 (by decide +kernel) (by decide +kernel)
set_option maxRecDepth 100000 in
theorem tw_952 : Cond.selects RX9 yX9_start yX9_start ∈ lw_good := mw_tw 952 (by decide +kernel) (by decide +kernel)
set_option maxRecDepth 100000 in
theorem tw_953 : Cond.code yX9_start cX9_start 2 (some .int) ∈ lw_good := mw_tw 953 (by decide +kernel) (by decide +kernel)
set_option maxRecDepth 100000 in
theorem tw_954 : Cond.methodLink RL 96 yX9_stop ∈ lw_good := mw_tw 954 (by decide +kernel) (by decide +kernel)
set_option maxRecDepth 100000 in
theorem tw_955 : Cond.instanceMethod yX9_stop ∈ lw_good := mw_tw 955 (by decide +kernel) (by decide +kernel)
set_option maxRecDepth 100000 in
theorem tw_956 : Cond.selects RX9 yX9_stop yX9_stop ∈ lw_good := mw_tw 956 (by decide +kernel) (by decide +kernel)
set_option maxRecDepth 100000 in
theorem tw_957 : Cond.code yX9_stop cX9_stop 2 (some .int) ∈ lw_good := mw_tw 957 (by decide +kernel) (by decide +kernel)
set_option maxRecDepth 100000 in
theorem tw_962 : Cond.methodLink RL 99 yX9_close ∈ lw_good := mw_tw 962 (by decide +kernel) (by decide +kernel)
set_option maxRecDepth 100000 in
theorem tw_963 : Cond.instanceMethod yX9_close ∈ lw_good := mw_tw 963 (by decide +kernel) (by decide +kernel)
set_option maxRecDepth 100000 in
theorem tw_964 : Cond.selects RX9 yX9_close yX9_close ∈ lw_good := mw_tw 964 (by decide +kernel) (by decide +kernel)
set_option maxRecDepth 100000 in
theorem tw_965 : Cond.code yX9_close cX9_close 4 (some .boolean) ∈ lw_good := mw_tw 965 (by decide +kernel) (by decide +kernel)
set_option maxRecDepth 100000 in
theorem tw_966 : Cond.methodLink RL 102 yX9_dump ∈ lw_good := mw_tw 966 (by decide +kernel) (by decide +kernel)
set_option maxRecDepth 100000 in
theorem tw_967 : Cond.instanceMethod yX9_dump ∈ lw_good := mw_tw 967 (by decide +kernel) (by decide +kernel)
set_option maxRecDepth 100000 in
theorem tw_968 : Cond.selects RX9 yX9_dump yX9_dump ∈ lw_good := mw_tw 968 (by decide +kernel) (by decide +kernel)
set_option maxRecDepth 100000 in
theorem tw_969 : Cond.code yX9_dump cX9_dump 3 (some .int) ∈ lw_good := mw_tw 969 (by decide +kernel) (by decide +kernel)
set_option maxRecDepth 100000 in
theorem tw_982 : Cond.methodLink RL 106 yX9_output ∈ lw_good := mw_tw 982 (by decide +kernel) (by decide +kernel)
set_option maxRecDepth 100000 in
theorem tw_983 : Cond.instanceMethod yX9_output ∈ lw_good := mw_tw 983 (by decide +kernel) (by decide +kernel)
set_option maxRecDepth 100000 in
theorem tw_984 : Cond.selects RX9 yX9_output yX9_output ∈ lw_good := mw_tw 984 (by decide +kernel) (by decide +kernel)
set_option maxRecDepth 100000 in
theorem tw_985 : Cond.code yX9_output cX9_output 2 (some .int) ∈ lw_good := mw_tw 985 (by decide +kernel) (by decide +kernel)
set_option maxRecDepth 100000 in
theorem tw_986 : Cond.methodLink RL 110 yX9_state ∈ lw_good := mw_tw 986 (by decide +kernel) (by decide +kernel)
set_option maxRecDepth 100000 in
theorem tw_987 : Cond.instanceMethod yX9_state ∈ lw_good := mw_tw 987 (by decide +kernel) (by decide +kernel)
set_option maxRecDepth 100000 in
theorem tw_988 : Cond.selects RX9 yX9_state yX9_state ∈ lw_good := mw_tw 988 (by decide +kernel) (by decide +kernel)
set_option maxRecDepth 100000 in
theorem tw_989 : Cond.code yX9_state cX9_state 2 (some .int) ∈ lw_good := mw_tw 989 (by decide +kernel) (by decide +kernel)
set_option maxRecDepth 100000 in
theorem tw_990 : Cond.methodLink RL 115 yX9_threshold ∈ lw_good := mw_tw 990 (by decide +kernel) (by decide +kernel)
set_option maxRecDepth 100000 in
theorem tw_991 : Cond.instanceMethod yX9_threshold ∈ lw_good := mw_tw 991 (by decide +kernel) (by decide +kernel)
set_option maxRecDepth 100000 in
theorem tw_992 : Cond.selects RX9 yX9_threshold yX9_threshold ∈ lw_good := mw_tw 992 (by decide +kernel) (by decide +kernel)
set_option maxRecDepth 100000 in
theorem tw_993 : Cond.code yX9_threshold cX9_threshold 3 (some .int) ∈ lw_good := mw_tw 993 (by decide +kernel) (by decide +kernel)
set_option maxRecDepth 100000 in
theorem tw_994 : Cond.methodLink RL 119 yX9_buffered ∈ lw_good := mw_tw 994 (by decide +kernel) (by decide +kernel)
set_option maxRecDepth 100000 in
theorem tw_995 : Cond.instanceMethod yX9_buffered ∈ lw_good := mw_tw 995 (by decide +kernel) (by decide +kernel)
set_option maxRecDepth 100000 in
theorem tw_996 : Cond.selects RX9 yX9_buffered yX9_buffered ∈ lw_good := mw_tw 996 (by decide +kernel) (by decide +kernel)
set_option maxRecDepth 100000 in
theorem tw_997 : Cond.code yX9_buffered cX9_buffered 2 (some .int) ∈ lw_good := mw_tw 997 (by decide +kernel) (by decide +kernel)
set_option maxRecDepth 100000 in
theorem tw_998 : Cond.methodLink RL 123 yX9_count ∈ lw_good := mw_tw 998 (by decide +kernel) (by decide +kernel)
set_option maxRecDepth 100000 in
theorem tw_999 : Cond.instanceMethod yX9_count ∈ lw_good := mw_tw 999 (by decide +kernel) (by decide +kernel)
set_option maxRecDepth 100000 in
theorem tw_1000 : Cond.selects RX9 yX9_count yX9_count ∈ lw_good := mw_tw 1000 (by decide +kernel) (by decide +kernel)
set_option maxRecDepth 100000 in
theorem tw_1001 : Cond.code yX9_count cX9_count 2 (some .int) ∈ lw_good := mw_tw 1001 (by decide +kernel) (by decide +kernel)
set_option maxRecDepth 100000 in
theorem tw_1002 : Cond.methodLink RL 127 yX9_lost ∈ lw_good := mw_tw 1002 (by decide +kernel) (by decide +kernel)
set_option maxRecDepth 100000 in
theorem tw_1003 : Cond.instanceMethod yX9_lost ∈ lw_good := mw_tw 1003 (by decide +kernel) (by decide +kernel)
set_option maxRecDepth 100000 in
theorem tw_1004 : Cond.selects RX9 yX9_lost yX9_lost ∈ lw_good := mw_tw 1004 (by decide +kernel) (by decide +kernel)
set_option maxRecDepth 100000 in
theorem tw_1005 : Cond.code yX9_lost cX9_lost 2 (some .int) ∈ lw_good := mw_tw 1005 (by decide +kernel) (by decide +kernel)
set_option maxRecDepth 100000 in
theorem tw_1006 : Cond.arrayClass .long ∈ lw_good := mw_tw 1006 (by decide +kernel) (by decide +kernel)
