set_option maxRecDepth 100000 in
theorem tw_536 : Cond.classLink RL 13 xA ∈ lw_good := mw_tw 536 (by decide +kernel) (by decide +kernel)
set_option maxRecDepth 100000 in
theorem tw_537 : Cond.classLink RL 15 xS ∈ lw_good := mw_tw 537 (by decide +kernel) (by decide +kernel)
set_option maxRecDepth 100000 in
theorem tw_538 : Cond.methodLink RL 7 yX8_type ∈ lw_good := mw_tw 538 (by decide +kernel) (by decide +kernel)
set_option maxRecDepth 100000 in
theorem tw_539 : Cond.instanceMethod yX8_type ∈ lw_good := mw_tw 539 (by decide +kernel) (by decide +kernel)
set_option maxRecDepth 100000 in
theorem tw_540 : Cond.selects RX8 yX8_type yX8_type ∈ lw_good := mw_tw 540 (by decide +kernel) (by decide +kernel)
set_option maxRecDepth 100000 in
theorem tw_541 : Cond.code yX8_type cX8_type 3 (some .int) ∈ lw_good := mw_tw 541 (by decide +kernel) (by decide +kernel)
set_option maxRecDepth 100000 in
theorem tw_627 : Cond.methodLink RL 17 yX8_record ∈ lw_good := mw_tw 627 (by decide +kernel) (by decide +kernel)
set_option maxRecDepth 100000 in
theorem tw_628 : Cond.instanceMethod yX8_record ∈ lw_good := mw_tw 628 (by decide +kernel) (by decide +kernel)
set_option maxRecDepth 100000 in
theorem tw_629 : Cond.selects RX8 yX8_record yX8_record ∈ lw_good := mw_tw 629 (by decide +kernel) (by decide +kernel)
set_option maxRecDepth 100000 in
theorem tw_630 : Cond.code yX8_record cX8_record 1 (some .int) ∈ lw_good := mw_tw 630 (by decide +kernel) (by decide +kernel)
set_option maxRecDepth 100000 in
theorem tw_635 : Cond.methodLink RL 21 yX8_settings ∈ lw_good := mw_tw 635 (by decide +kernel) (by decide +kernel)
set_option maxRecDepth 100000 in
theorem tw_636 : Cond.instanceMethod yX8_settings ∈ lw_good := mw_tw 636 (by decide +kernel) (by decide +kernel)
set_option maxRecDepth 100000 in
theorem tw_637 : Cond.selects RX8 yX8_settings yX8_settings ∈ lw_good := mw_tw 637 (by decide +kernel) (by decide +kernel)
set_option maxRecDepth 100000 in
theorem tw_638 : Cond.code yX8_settings cX8_settings 5 (some .int) ∈ lw_good := mw_tw 638 (by decide +kernel) (by decide +kernel)
set_option maxRecDepth 100000 in
theorem tw_644 : Cond.methodLink RL 25 yX8_start ∈ lw_good := mw_tw 644 (by decide +kernel) (by decide +kernel)
set_option maxRecDepth 100000 in
theorem tw_645 : Cond.instanceMethod yX8_start ∈ lw_good := mw_tw 645 (by decide +kernel) (by decide +kernel)
set_option maxRecDepth 100000 in
theorem tw_646 : Cond.selects RX8 yX8_start yX8_start ∈ lw_good := mw_tw 646 (by decide +kernel) (by decide +kernel)
set_option maxRecDepth 100000 in
theorem tw_647 : Cond.code yX8_start cX8_start 3 (some .int) ∈ lw_good := mw_tw 647 (by decide +kernel) (by decide +kernel)
set_option maxRecDepth 100000 in
theorem tw_657 : Cond.methodLink RL 28 yX8_stop ∈ lw_good := mw_tw 657 (by decide +kernel) (by decide +kernel)
set_option maxRecDepth 100000 in
theorem tw_658 : Cond.instanceMethod yX8_stop ∈ lw_good := mw_tw 658 (by decide +kernel) (by decide +kernel)
set_option maxRecDepth 100000 in
theorem tw_659 : Cond.selects RX8 yX8_stop yX8_stop ∈ lw_good := mw_tw 659 (by decide +kernel) (by decide +kernel)
set_option maxRecDepth 100000 in
theorem tw_660 : Cond.code yX8_stop cX8_stop 2 (some .int) ∈ lw_good := mw_tw 660 (by decide +kernel) (by decide +kernel)
set_option maxRecDepth 100000 in
theorem tw_673 : Cond.methodLink RL 31 yX8_close ∈ lw_good := mw_tw 673 (by decide +kernel) (by decide +kernel)
set_option maxRecDepth 100000 in
theorem tw_674 : Cond.instanceMethod yX8_close ∈ lw_good := mw_tw 674 (by decide +kernel) (by decide +kernel)
set_option maxRecDepth 100000 in
theorem tw_675 : Cond.selects RX8 yX8_close yX8_close ∈ lw_good := mw_tw 675 (by decide +kernel) (by decide +kernel)
set_option maxRecDepth 100000 in
theorem tw_676 : Cond.code yX8_close cX8_close 4 (some .boolean) ∈ lw_good := mw_tw 676 (by decide +kernel) (by decide +kernel)
set_option maxRecDepth 100000 in
theorem tw_685 : Cond.methodLink RL 35 yX8_dump ∈ lw_good := mw_tw 685 (by decide +kernel) (by decide +kernel)
set_option maxRecDepth 100000 in
theorem tw_686 : Cond.instanceMethod yX8_dump ∈ lw_good := mw_tw 686 (by decide +kernel) (by decide +kernel)
set_option maxRecDepth 100000 in
theorem tw_687 : Cond.selects RX8 yX8_dump yX8_dump ∈ lw_good := mw_tw 687 (by decide +kernel) (by decide +kernel)
set_option maxRecDepth 100000 in
theorem tw_688 : Cond.code yX8_dump cX8_dump 3 (some .int) ∈ lw_good := mw_tw 688 (by decide +kernel) (by decide +kernel)
