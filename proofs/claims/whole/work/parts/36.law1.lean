/-! THE LAW'S CASES, by program (wip/whole/z1.py) -/
theorem aw_590 : Cond.methodLink RL 70 yX4_thrown ∈ AW := aw_of (List.mem_of_getElem? (i := 771) (by decide +kernel)) (by decide +kernel)
theorem aw_591 : Cond.instanceMethod yX4_thrown ∈ AW := aw_of (List.mem_of_getElem? (i := 772) (by decide +kernel)) (by decide +kernel)
theorem aw_592 : Cond.selects RX4 yX4_thrown yX4_thrown ∈ AW := aw_of (List.mem_of_getElem? (i := 773) (by decide +kernel)) (by decide +kernel)
set_option maxRecDepth 100000 in
theorem aw_593 : Cond.code yX4_thrown cX4_thrown 1 (some .int) ∈ AW := aw_of (List.mem_of_getElem? (i := 774) rfl) (by decide +kernel)
theorem cw_RL_70 : e_cwV RL 70 RX4 yX4_thrown cX4_thrown 1 (some .int) 0 := ⟨aw_590, aw_591, aw_592, aw_4, aw_593, rfl, by decide +kernel, by decide +kernel, by decide +kernel⟩
theorem aw_595 : Cond.methodLink RL 74 yL_move ∈ AW := aw_of (List.mem_of_getElem? (i := 408) (by decide +kernel)) (by decide +kernel)
set_option maxRecDepth 100000 in
theorem aw_596 : Cond.codeWith yL_move cL_move 7 (some .int) [(0, 14, 17, 13), (0, 14, 21, 21), (0, 14, 25, 15)] ∈ AW := aw_of (List.mem_of_getElem? (i := 410) rfl) (by decide +kernel)
theorem aw_597 : Cond.static yL_move ∈ AW := aw_of (List.mem_of_getElem? (i := 409) (by decide +kernel)) (by decide +kernel)
theorem aw_598 : Cond.initialized RL ∈ AW := aw_of (List.mem_of_getElem? (i := 43) (by decide +kernel)) (by decide +kernel)
theorem ch_RL_74 : e_cwH RL 74 yL_move cL_move 7 [(0, 14, 17, 13), (0, 14, 21, 21), (0, 14, 25, 15)] 6 := ⟨aw_595, aw_597, aw_598, aw_596, by decide +kernel, by decide +kernel, by decide +kernel⟩
theorem aw_600 : Cond.methodLink RL 77 yX4_move ∈ AW := aw_of (List.mem_of_getElem? (i := 787) (by decide +kernel)) (by decide +kernel)
theorem aw_601 : Cond.instanceMethod yX4_move ∈ AW := aw_of (List.mem_of_getElem? (i := 788) (by decide +kernel)) (by decide +kernel)
theorem aw_602 : Cond.selects RX4 yX4_move yX4_move ∈ AW := aw_of (List.mem_of_getElem? (i := 789) (by decide +kernel)) (by decide +kernel)
set_option maxRecDepth 100000 in
theorem aw_603 : Cond.code yX4_move cX4_move 8 (some .int) ∈ AW := aw_of (List.mem_of_getElem? (i := 790) rfl) (by decide +kernel)
theorem cw_RL_77 : e_cwV RL 77 RX4 yX4_move cX4_move 8 (some .int) 4 := ⟨aw_600, aw_601, aw_602, aw_4, aw_603, rfl, by decide +kernel, by decide +kernel, by decide +kernel⟩
theorem aw_605 : Cond.methodLink RL 78 yL_place ∈ AW := aw_of (List.mem_of_getElem? (i := 453) (by decide +kernel)) (by decide +kernel)
set_option maxRecDepth 100000 in
theorem aw_606 : Cond.codeWith yL_place cL_place 6 (some .int) [(0, 12, 15, 13)] ∈ AW := aw_of (List.mem_of_getElem? (i := 455) rfl) (by decide +kernel)
theorem aw_607 : Cond.static yL_place ∈ AW := aw_of (List.mem_of_getElem? (i := 454) (by decide +kernel)) (by decide +kernel)
theorem ch_RL_78 : e_cwH RL 78 yL_place cL_place 6 [(0, 12, 15, 13)] 5 := ⟨aw_605, aw_607, aw_598, aw_606, by decide +kernel, by decide +kernel, by decide +kernel⟩
theorem aw_609 : Cond.methodLink RL 81 yX4_place ∈ AW := aw_of (List.mem_of_getElem? (i := 799) (by decide +kernel)) (by decide +kernel)
theorem aw_610 : Cond.instanceMethod yX4_place ∈ AW := aw_of (List.mem_of_getElem? (i := 800) (by decide +kernel)) (by decide +kernel)
theorem aw_611 : Cond.selects RX4 yX4_place yX4_place ∈ AW := aw_of (List.mem_of_getElem? (i := 801) (by decide +kernel)) (by decide +kernel)
set_option maxRecDepth 100000 in
theorem aw_612 : Cond.code yX4_place cX4_place 4 (some .int) ∈ AW := aw_of (List.mem_of_getElem? (i := 802) rfl) (by decide +kernel)
theorem cw_RL_81 : e_cwV RL 81 RX4 yX4_place cX4_place 4 (some .int) 3 := ⟨aw_609, aw_610, aw_611, aw_4, aw_612, rfl, by decide +kernel, by decide +kernel, by decide +kernel⟩
theorem aw_614 : Cond.methodLink RL 82 yL_placeAnew ∈ AW := aw_of (List.mem_of_getElem? (i := 464) (by decide +kernel)) (by decide +kernel)
set_option maxRecDepth 100000 in
theorem aw_615 : Cond.codeWith yL_placeAnew cL_placeAnew 6 (some .int) [(0, 12, 15, 13)] ∈ AW := aw_of (List.mem_of_getElem? (i := 466) rfl) (by decide +kernel)
theorem aw_616 : Cond.static yL_placeAnew ∈ AW := aw_of (List.mem_of_getElem? (i := 465) (by decide +kernel)) (by decide +kernel)
theorem ch_RL_82 : e_cwH RL 82 yL_placeAnew cL_placeAnew 6 [(0, 12, 15, 13)] 5 := ⟨aw_614, aw_616, aw_598, aw_615, by decide +kernel, by decide +kernel, by decide +kernel⟩
theorem aw_618 : Cond.methodLink RL 84 yX4_placeAnew ∈ AW := aw_of (List.mem_of_getElem? (i := 811) (by decide +kernel)) (by decide +kernel)
theorem aw_619 : Cond.instanceMethod yX4_placeAnew ∈ AW := aw_of (List.mem_of_getElem? (i := 812) (by decide +kernel)) (by decide +kernel)
theorem aw_620 : Cond.selects RX4 yX4_placeAnew yX4_placeAnew ∈ AW := aw_of (List.mem_of_getElem? (i := 813) (by decide +kernel)) (by decide +kernel)
set_option maxRecDepth 100000 in
theorem aw_621 : Cond.code yX4_placeAnew cX4_placeAnew 4 (some .int) ∈ AW := aw_of (List.mem_of_getElem? (i := 814) rfl) (by decide +kernel)
theorem cw_RL_84 : e_cwV RL 84 RX4 yX4_placeAnew cX4_placeAnew 4 (some .int) 3 := ⟨aw_618, aw_619, aw_620, aw_4, aw_621, rfl, by decide +kernel, by decide +kernel, by decide +kernel⟩
theorem aw_623 : Cond.methodLink RL 85 yL_clashes ∈ AW := aw_of (List.mem_of_getElem? (i := 475) (by decide +kernel)) (by decide +kernel)
set_option maxRecDepth 100000 in
theorem aw_624 : Cond.codeWith yL_clashes cL_clashes 4 (some .int) [(0, 9, 12, 13)] ∈ AW := aw_of (List.mem_of_getElem? (i := 477) rfl) (by decide +kernel)
theorem aw_625 : Cond.static yL_clashes ∈ AW := aw_of (List.mem_of_getElem? (i := 476) (by decide +kernel)) (by decide +kernel)
theorem ch_RL_85 : e_cwH RL 85 yL_clashes cL_clashes 4 [(0, 9, 12, 13)] 3 := ⟨aw_623, aw_625, aw_598, aw_624, by decide +kernel, by decide +kernel, by decide +kernel⟩
theorem aw_627 : Cond.methodLink RL 88 yX4_clashes ∈ AW := aw_of (List.mem_of_getElem? (i := 815) (by decide +kernel)) (by decide +kernel)
theorem aw_628 : Cond.instanceMethod yX4_clashes ∈ AW := aw_of (List.mem_of_getElem? (i := 816) (by decide +kernel)) (by decide +kernel)
theorem aw_629 : Cond.selects RX4 yX4_clashes yX4_clashes ∈ AW := aw_of (List.mem_of_getElem? (i := 817) (by decide +kernel)) (by decide +kernel)
set_option maxRecDepth 100000 in
theorem aw_630 : Cond.code yX4_clashes cX4_clashes 2 (some .int) ∈ AW := aw_of (List.mem_of_getElem? (i := 818) rfl) (by decide +kernel)
theorem cw_RL_88 : e_cwV RL 88 RX4 yX4_clashes cX4_clashes 2 (some .int) 1 := ⟨aw_627, aw_628, aw_629, aw_4, aw_630, rfl, by decide +kernel, by decide +kernel, by decide +kernel⟩
theorem aw_632 : Cond.methodLink RL 96 yL_ofLift ∈ AW := aw_of (List.mem_of_getElem? (i := 522) (by decide +kernel)) (by decide +kernel)
set_option maxRecDepth 100000 in
theorem aw_633 : Cond.codeWith yL_ofLift cL_ofLift 5 (some .int) [(0, 10, 13, 13), (0, 10, 17, 21)] ∈ AW := aw_of (List.mem_of_getElem? (i := 524) rfl) (by decide +kernel)
theorem aw_634 : Cond.static yL_ofLift ∈ AW := aw_of (List.mem_of_getElem? (i := 523) (by decide +kernel)) (by decide +kernel)
theorem ch_RL_96 : e_cwH RL 96 yL_ofLift cL_ofLift 5 [(0, 10, 13, 13), (0, 10, 17, 21)] 4 := ⟨aw_632, aw_634, aw_598, aw_633, by decide +kernel, by decide +kernel, by decide +kernel⟩
theorem aw_636 : Cond.methodLink RL 98 yX4_ofLift ∈ AW := aw_of (List.mem_of_getElem? (i := 835) (by decide +kernel)) (by decide +kernel)
theorem aw_637 : Cond.instanceMethod yX4_ofLift ∈ AW := aw_of (List.mem_of_getElem? (i := 836) (by decide +kernel)) (by decide +kernel)
theorem aw_638 : Cond.selects RX4 yX4_ofLift yX4_ofLift ∈ AW := aw_of (List.mem_of_getElem? (i := 837) (by decide +kernel)) (by decide +kernel)
set_option maxRecDepth 100000 in
theorem aw_639 : Cond.code yX4_ofLift cX4_ofLift 3 (some .int) ∈ AW := aw_of (List.mem_of_getElem? (i := 838) rfl) (by decide +kernel)
theorem cw_RL_98 : e_cwV RL 98 RX4 yX4_ofLift cX4_ofLift 3 (some .int) 2 := ⟨aw_636, aw_637, aw_638, aw_4, aw_639, rfl, by decide +kernel, by decide +kernel, by decide +kernel⟩
theorem aw_641 : Cond.methodLink RL 99 yL_tempo ∈ AW := aw_of (List.mem_of_getElem? (i := 563) (by decide +kernel)) (by decide +kernel)
set_option maxRecDepth 100000 in
theorem aw_642 : Cond.codeWith yL_tempo cL_tempo 5 (some .int) [(0, 10, 13, 13), (0, 10, 17, 21)] ∈ AW := aw_of (List.mem_of_getElem? (i := 565) rfl) (by decide +kernel)
theorem aw_643 : Cond.static yL_tempo ∈ AW := aw_of (List.mem_of_getElem? (i := 564) (by decide +kernel)) (by decide +kernel)
theorem ch_RL_99 : e_cwH RL 99 yL_tempo cL_tempo 5 [(0, 10, 13, 13), (0, 10, 17, 21)] 4 := ⟨aw_641, aw_643, aw_598, aw_642, by decide +kernel, by decide +kernel, by decide +kernel⟩
theorem aw_645 : Cond.methodLink RL 101 yX4_tempo ∈ AW := aw_of (List.mem_of_getElem? (i := 855) (by decide +kernel)) (by decide +kernel)
theorem aw_646 : Cond.instanceMethod yX4_tempo ∈ AW := aw_of (List.mem_of_getElem? (i := 856) (by decide +kernel)) (by decide +kernel)
theorem aw_647 : Cond.selects RX4 yX4_tempo yX4_tempo ∈ AW := aw_of (List.mem_of_getElem? (i := 857) (by decide +kernel)) (by decide +kernel)
set_option maxRecDepth 100000 in
theorem aw_648 : Cond.code yX4_tempo cX4_tempo 4 (some .int) ∈ AW := aw_of (List.mem_of_getElem? (i := 858) rfl) (by decide +kernel)
theorem cw_RL_101 : e_cwV RL 101 RX4 yX4_tempo cX4_tempo 4 (some .int) 2 := ⟨aw_645, aw_646, aw_647, aw_4, aw_648, rfl, by decide +kernel, by decide +kernel, by decide +kernel⟩
theorem aw_650 : Cond.methodLink RL 102 yL_begins ∈ AW := aw_of (List.mem_of_getElem? (i := 576) (by decide +kernel)) (by decide +kernel)
set_option maxRecDepth 100000 in
theorem aw_651 : Cond.codeWith yL_begins cL_begins 4 (some .int) [(0, 9, 12, 13), (0, 9, 15, 46)] ∈ AW := aw_of (List.mem_of_getElem? (i := 578) rfl) (by decide +kernel)
theorem aw_652 : Cond.static yL_begins ∈ AW := aw_of (List.mem_of_getElem? (i := 577) (by decide +kernel)) (by decide +kernel)
theorem ch_RL_102 : e_cwH RL 102 yL_begins cL_begins 4 [(0, 9, 12, 13), (0, 9, 15, 46)] 3 := ⟨aw_650, aw_652, aw_598, aw_651, by decide +kernel, by decide +kernel, by decide +kernel⟩
theorem aw_654 : Cond.methodLink RL 104 yX4_begins ∈ AW := aw_of (List.mem_of_getElem? (i := 864) (by decide +kernel)) (by decide +kernel)
theorem aw_655 : Cond.instanceMethod yX4_begins ∈ AW := aw_of (List.mem_of_getElem? (i := 865) (by decide +kernel)) (by decide +kernel)
theorem aw_656 : Cond.selects RX4 yX4_begins yX4_begins ∈ AW := aw_of (List.mem_of_getElem? (i := 866) (by decide +kernel)) (by decide +kernel)
set_option maxRecDepth 100000 in
theorem aw_657 : Cond.code yX4_begins cX4_begins 5 (some .int) ∈ AW := aw_of (List.mem_of_getElem? (i := 867) rfl) (by decide +kernel)
theorem cw_RL_104 : e_cwV RL 104 RX4 yX4_begins cX4_begins 5 (some .int) 1 := ⟨aw_654, aw_655, aw_656, aw_4, aw_657, rfl, by decide +kernel, by decide +kernel, by decide +kernel⟩
theorem aw_659 : Cond.methodLink RL 105 yL_rehearse ∈ AW := aw_of (List.mem_of_getElem? (i := 605) (by decide +kernel)) (by decide +kernel)
set_option maxRecDepth 100000 in
theorem aw_660 : Cond.codeWith yL_rehearse cL_rehearse 7 (some .int) [(0, 14, 17, 13), (0, 14, 21, 21), (0, 14, 25, 15)] ∈ AW := aw_of (List.mem_of_getElem? (i := 607) rfl) (by decide +kernel)
theorem aw_661 : Cond.static yL_rehearse ∈ AW := aw_of (List.mem_of_getElem? (i := 606) (by decide +kernel)) (by decide +kernel)
theorem ch_RL_105 : e_cwH RL 105 yL_rehearse cL_rehearse 7 [(0, 14, 17, 13), (0, 14, 21, 21), (0, 14, 25, 15)] 6 := ⟨aw_659, aw_661, aw_598, aw_660, by decide +kernel, by decide +kernel, by decide +kernel⟩
theorem aw_663 : Cond.methodLink RL 107 yX4_rehearse ∈ AW := aw_of (List.mem_of_getElem? (i := 869) (by decide +kernel)) (by decide +kernel)
theorem aw_664 : Cond.instanceMethod yX4_rehearse ∈ AW := aw_of (List.mem_of_getElem? (i := 870) (by decide +kernel)) (by decide +kernel)
theorem aw_665 : Cond.selects RX4 yX4_rehearse yX4_rehearse ∈ AW := aw_of (List.mem_of_getElem? (i := 871) (by decide +kernel)) (by decide +kernel)
set_option maxRecDepth 100000 in
theorem aw_666 : Cond.code yX4_rehearse cX4_rehearse 11 (some .int) ∈ AW := aw_of (List.mem_of_getElem? (i := 872) rfl) (by decide +kernel)
theorem cw_RL_107 : e_cwV RL 107 RX4 yX4_rehearse cX4_rehearse 11 (some .int) 4 := ⟨aw_663, aw_664, aw_665, aw_4, aw_666, rfl, by decide +kernel, by decide +kernel, by decide +kernel⟩
theorem aw_668 : Cond.methodLink RL 108 yL_rehearsal ∈ AW := aw_of (List.mem_of_getElem? (i := 652) (by decide +kernel)) (by decide +kernel)
set_option maxRecDepth 100000 in
theorem aw_669 : Cond.codeWith yL_rehearsal cL_rehearsal 5 (some .int) [(0, 10, 13, 13)] ∈ AW := aw_of (List.mem_of_getElem? (i := 654) rfl) (by decide +kernel)
theorem aw_670 : Cond.static yL_rehearsal ∈ AW := aw_of (List.mem_of_getElem? (i := 653) (by decide +kernel)) (by decide +kernel)
theorem ch_RL_108 : e_cwH RL 108 yL_rehearsal cL_rehearsal 5 [(0, 10, 13, 13)] 4 := ⟨aw_668, aw_670, aw_598, aw_669, by decide +kernel, by decide +kernel, by decide +kernel⟩
theorem aw_672 : Cond.methodLink RL 110 yX4_rehearsal ∈ AW := aw_of (List.mem_of_getElem? (i := 885) (by decide +kernel)) (by decide +kernel)
theorem aw_673 : Cond.instanceMethod yX4_rehearsal ∈ AW := aw_of (List.mem_of_getElem? (i := 886) (by decide +kernel)) (by decide +kernel)
theorem aw_674 : Cond.selects RX4 yX4_rehearsal yX4_rehearsal ∈ AW := aw_of (List.mem_of_getElem? (i := 887) (by decide +kernel)) (by decide +kernel)
set_option maxRecDepth 100000 in
theorem aw_675 : Cond.code yX4_rehearsal cX4_rehearsal 3 (some .int) ∈ AW := aw_of (List.mem_of_getElem? (i := 888) rfl) (by decide +kernel)
theorem cw_RL_110 : e_cwV RL 110 RX4 yX4_rehearsal cX4_rehearsal 3 (some .int) 2 := ⟨aw_672, aw_673, aw_674, aw_4, aw_675, rfl, by decide +kernel, by decide +kernel, by decide +kernel⟩
theorem aw_677 : Cond.methodLink RL 111 yL_knees ∈ AW := aw_of (List.mem_of_getElem? (i := 659) (by decide +kernel)) (by decide +kernel)
set_option maxRecDepth 100000 in
theorem aw_678 : Cond.codeWith yL_knees cL_knees 4 (some .int) [(0, 9, 12, 13)] ∈ AW := aw_of (List.mem_of_getElem? (i := 661) rfl) (by decide +kernel)
theorem aw_679 : Cond.static yL_knees ∈ AW := aw_of (List.mem_of_getElem? (i := 660) (by decide +kernel)) (by decide +kernel)
theorem ch_RL_111 : e_cwH RL 111 yL_knees cL_knees 4 [(0, 9, 12, 13)] 3 := ⟨aw_677, aw_679, aw_598, aw_678, by decide +kernel, by decide +kernel, by decide +kernel⟩
theorem aw_681 : Cond.methodLink RL 113 yX4_knees ∈ AW := aw_of (List.mem_of_getElem? (i := 889) (by decide +kernel)) (by decide +kernel)
theorem aw_682 : Cond.instanceMethod yX4_knees ∈ AW := aw_of (List.mem_of_getElem? (i := 890) (by decide +kernel)) (by decide +kernel)
theorem aw_683 : Cond.selects RX4 yX4_knees yX4_knees ∈ AW := aw_of (List.mem_of_getElem? (i := 891) (by decide +kernel)) (by decide +kernel)
set_option maxRecDepth 100000 in
theorem aw_684 : Cond.code yX4_knees cX4_knees 2 (some .int) ∈ AW := aw_of (List.mem_of_getElem? (i := 892) rfl) (by decide +kernel)
theorem cw_RL_113 : e_cwV RL 113 RX4 yX4_knees cX4_knees 2 (some .int) 1 := ⟨aw_681, aw_682, aw_683, aw_4, aw_684, rfl, by decide +kernel, by decide +kernel, by decide +kernel⟩
theorem aw_686 : Cond.methodLink RL 114 yL_hurt ∈ AW := aw_of (List.mem_of_getElem? (i := 666) (by decide +kernel)) (by decide +kernel)
set_option maxRecDepth 100000 in
theorem aw_687 : Cond.codeWith yL_hurt cL_hurt 4 (some .int) [(0, 9, 12, 13), (0, 9, 15, 15)] ∈ AW := aw_of (List.mem_of_getElem? (i := 668) rfl) (by decide +kernel)
theorem aw_688 : Cond.static yL_hurt ∈ AW := aw_of (List.mem_of_getElem? (i := 667) (by decide +kernel)) (by decide +kernel)
theorem ch_RL_114 : e_cwH RL 114 yL_hurt cL_hurt 4 [(0, 9, 12, 13), (0, 9, 15, 15)] 3 := ⟨aw_686, aw_688, aw_598, aw_687, by decide +kernel, by decide +kernel, by decide +kernel⟩
theorem aw_690 : Cond.methodLink RL 116 yX4_hurt ∈ AW := aw_of (List.mem_of_getElem? (i := 893) (by decide +kernel)) (by decide +kernel)
theorem aw_691 : Cond.instanceMethod yX4_hurt ∈ AW := aw_of (List.mem_of_getElem? (i := 894) (by decide +kernel)) (by decide +kernel)
theorem aw_692 : Cond.selects RX4 yX4_hurt yX4_hurt ∈ AW := aw_of (List.mem_of_getElem? (i := 895) (by decide +kernel)) (by decide +kernel)
set_option maxRecDepth 100000 in
theorem aw_693 : Cond.code yX4_hurt cX4_hurt 4 (some .int) ∈ AW := aw_of (List.mem_of_getElem? (i := 896) rfl) (by decide +kernel)
theorem cw_RL_116 : e_cwV RL 116 RX4 yX4_hurt cX4_hurt 4 (some .int) 1 := ⟨aw_690, aw_691, aw_692, aw_4, aw_693, rfl, by decide +kernel, by decide +kernel, by decide +kernel⟩
theorem ex_v {Pp : Prop} {α : Type} (a b : α) : ∃ w, (Pp → a = w) ∧ (¬ Pp → b = w) := by
  by_cases g : Pp
  · exact ⟨a, fun _ => rfl, fun z => absurd g z⟩
  · exact ⟨b, fun z => absurd z g, fun _ => rfl⟩
set_option maxRecDepth 100000 in
set_option maxHeartbeats 4000000 in
theorem law_move {p : Program} {l : Launch} {e : Env} {s : State} {m : MethodId} {below : List Frame} {meth : Method} {c : Code} {b L : Nat} {xs : Nat → Int32} {X : eD} {t0 mi i k : Nat} (F : lFix p l s m c b L xs X t0 mi) (hi : i + 4 < L) (hk : k < 599) (next : lGo p l e s m below meth c b X t0 i (k + 1) 1102) : lGo p l e s m below meth c b X t0 i k 180 := by
  intro dn ln ad v H locs ls hWd hl
  obtain ⟨hx, hb, hml, hown, hts, hX, hbl, hl9, hK, hT, hL, hN, hL0⟩ := id F
  obtain ⟨hz, hP, hI, hS, hR, h11⟩ := hWd
  have h8 := hR.d8
  have h12 := hR.l12
  obtain ⟨v9, h0, h1⟩ : ∃ v9 : eV, (cMoveC v dn (xs (i + 1)) (xs (i + 2)) (xs (i + 3)) (xs (i + 4)) = 0 → e_set (cMoveS v (nN (xs (i + 1))) (nN (xs (i + 2))) (xs (i + 3)) (xs (i + 4))) 120 0 (cCount (cMoveS v (nN (xs (i + 1))) (nN (xs (i + 2))) (xs (i + 3)) (xs (i + 4))) (20 + 7 * nN (xs (i + 1))) 64) = v9) ∧ (¬ cMoveC v dn (xs (i + 1)) (xs (i + 2)) (xs (i + 3)) (xs (i + 4)) = 0 → v = v9) := ex_v _ _
  refine lv_aload_n hx hb dL_law_180 rfl (lv_at hl 1 rfl) ?_
  refine l_arg (j := 1) F dL_law_181 dL_law_182 dL_law_184 dL_law_185 dL_law_186 (by decide) hi hl (lv_sub hl [0, 4] rfl) hS ?_
  refine l_arg (j := 2) F dL_law_187 dL_law_188 dL_law_190 dL_law_191 dL_law_192 (by decide) hi hl (lv_sub hl [0, 4] rfl) hS ?_
  refine l_arg (j := 3) F dL_law_193 dL_law_194 dL_law_196 dL_law_197 dL_law_198 (by decide) hi hl (lv_sub hl [0, 4] rfl) hS ?_
  refine l_arg (j := 4) F dL_law_199 dL_law_200 dL_law_202 dL_law_203 dL_law_204 (by decide) hi hl (lv_sub hl [0, 4] rfl) hS ?_
  refine lv_aload_n hx hb dL_law_205 rfl (lv_at hl 3 rfl) ?_
  refine e_cSH (As := [.ref (ad 0), .int (xs (i + 1)), .int (xs (i + 2)), .int (xs (i + 3)), .int (xs (i + 4)), .ref (ad 120)]) (rest := []) (kd' := KD dn ln) (sp' := SP dn ln) (v' := v9) hx hb hml hown hts hT hL hN (c_L_move (l := l) hl9 (v := v) (t0 := t0) (mi := mi) (KD_cK h8 h12) hR.cI (xs (i + 1)) (xs (i + 2)) (xs (i + 3)) (xs (i + 4)) rfl h0 h1) ch_RL_74 (Nat.le_of_ble_eq_true rfl) (Nat.le_of_ble_eq_true rfl) hz hP hI hK hS rfl hl.1 rfl (Nat.le_of_ble_eq_true rfl) ⟨by show 40 + 60 * k + 60 ≤ 603072; omega, by show 2000 + 2000 * k + 2000 ≤ 7219306; omega⟩ dL_law_206 (fun H locs hz1 hP hI hS => ?_)
  have hz := Nat.le_trans hz hz1
  refine W.widen (k := 40 + 60 * (k + 1)) (n := 2000 + 2000 * (k + 1)) (by omega) (by omega) ?_
  obtain ⟨s1, s2, s3, s4⟩ := s_move hR (xs (i + 1)) (xs (i + 2)) (xs (i + 3)) (xs (i + 4)) h0 h1
  refine lv_istore (lv' := [(5, .int (cMoveC v dn (xs (i + 1)) (xs (i + 2)) (xs (i + 3)) (xs (i + 4)))), (0, .ref b), (1, .ref (ad 0)), (2, .ref (ad 100)), (3, .ref (ad 120)), (4, .int (nI i))]) hx hb dL_law_209 hl (by decide) rfl (fun ls hl => ?_)
  refine lv_aload_n hx hb dL_law_211 rfl (lv_at hl 3 rfl) ?_
  skip
  refine l_arg (j := 1) F dL_law_212 dL_law_213 dL_law_215 dL_law_216 dL_law_217 (by decide) hi hl (lv_sub hl [1, 5] rfl) hS ?_
  refine l_arg (j := 2) F dL_law_218 dL_law_219 dL_law_221 dL_law_222 dL_law_223 (by decide) hi hl (lv_sub hl [1, 5] rfl) hS ?_
  refine l_arg (j := 3) F dL_law_224 dL_law_225 dL_law_227 dL_law_228 dL_law_229 (by decide) hi hl (lv_sub hl [1, 5] rfl) hS ?_
  refine l_arg (j := 4) F dL_law_230 dL_law_231 dL_law_233 dL_law_234 dL_law_235 (by decide) hi hl (lv_sub hl [1, 5] rfl) hS ?_
  refine e_cVM (As := [.int (xs (i + 1)), .int (xs (i + 2)), .int (xs (i + 3)), .int (xs (i + 4))]) (rest := []) hx hb hml hown hts 100 (c_X4_move (l := l) (v := v9) dn ln KD_mK s1 (xs (i + 1)) (xs (i + 2)) (xs (i + 3)) (xs (i + 4))) cw_RL_77 (Nat.le_of_ble_eq_true rfl) (Nat.le_of_ble_eq_true rfl) hz hP hI hK hS (KD_mK 100 (by decide) (by decide)) (by decide) rfl rfl rfl hl.1 rfl (Nat.le_of_ble_eq_true rfl) ⟨by show 40 + 60 * (k + 1) + 0 ≤ 603072; omega, by show 2000 + 2000 * (k + 1) + 0 ≤ 7219306; omega⟩ dL_law_236 (fun H locs hz hP hS => ?_)
  refine lv_istore (lv' := [(6, .int (mMoveV v9 dn (xs (i + 1)) (xs (i + 2)) (xs (i + 3)) (xs (i + 4)))), (5, .int (cMoveC v dn (xs (i + 1)) (xs (i + 2)) (xs (i + 3)) (xs (i + 4)))), (0, .ref b), (1, .ref (ad 0)), (2, .ref (ad 100)), (3, .ref (ad 120)), (4, .int (nI i))]) hx hb dL_law_239 hl (by decide) rfl (fun ls hl => ?_)
  refine l_tail F dL_law_241 dL_law_242 dL_law_245 dL_law_247 dL_law_252 dL_law_254 dL_law_257 dL_law_258 dL_law_259 dL_law_260 dL_law_262 dL_law_263 dL_law_264 dL_law_269 (by decide) (by omega) cw_RL_70 hz hP hI KD_mK rfl s2 s3 (lv_sub hl [0, 1, 4, 5] rfl) ?_
  exact next dn ln ad _ H locs ls ⟨hz, hP, hI, hS, s4, h11⟩ (lv_sub hl [2, 3, 4, 5, 6] rfl)
set_option maxRecDepth 100000 in
set_option maxHeartbeats 4000000 in
theorem law_place {p : Program} {l : Launch} {e : Env} {s : State} {m : MethodId} {below : List Frame} {meth : Method} {c : Code} {b L : Nat} {xs : Nat → Int32} {X : eD} {t0 mi i k : Nat} (F : lFix p l s m c b L xs X t0 mi) (hi : i + 4 < L) (hk : k < 599) (next : lGo p l e s m below meth c b X t0 i (k + 1) 1102) : lGo p l e s m below meth c b X t0 i k 272 := by
  intro dn ln ad v H locs ls hWd hl
  obtain ⟨hx, hb, hml, hown, hts, hX, hbl, hl9, hK, hT, hL, hN, hL0⟩ := id F
  obtain ⟨hz, hP, hI, hS, hR, h11⟩ := hWd
  have h8 := hR.d8
  have h12 := hR.l12
  obtain ⟨v9, h0, h1⟩ : ∃ v9 : eV, (cPlaceC dn (xs (i + 1)) (xs (i + 2)) = 0 → e_set v 120 0 (cPlaceV v (xs (i + 1)) (xs (i + 2)) (sB (xs (i + 3)))) = v9) ∧ (¬ cPlaceC dn (xs (i + 1)) (xs (i + 2)) = 0 → v = v9) := ex_v _ _
  refine lv_aload_n hx hb dL_law_272 rfl (lv_at hl 1 rfl) ?_
  refine l_arg (j := 1) F dL_law_273 dL_law_274 dL_law_276 dL_law_277 dL_law_278 (by decide) hi hl (lv_sub hl [0, 4] rfl) hS ?_
  refine l_arg (j := 2) F dL_law_279 dL_law_280 dL_law_282 dL_law_283 dL_law_284 (by decide) hi hl (lv_sub hl [0, 4] rfl) hS ?_
  refine l_argB F dL_law_285 dL_law_286 dL_law_288 dL_law_289 dL_law_290 dL_law_291 dL_law_294 dL_law_295 dL_law_298 (by omega) (lv_sub hl [0, 4] rfl) hS ?_
  refine lv_aload_n hx hb dL_law_299 rfl (lv_at hl 3 rfl) ?_
  refine e_cSH (As := [.ref (ad 0), .int (xs (i + 1)), .int (xs (i + 2)), .int (sB (xs (i + 3))), .ref (ad 120)]) (rest := []) (kd' := KD dn ln) (sp' := SP dn ln) (v' := v9) hx hb hml hown hts hT hL hN (c_L_place (l := l) hl9 (v := v) (t0 := t0) (mi := mi) (KD_cK h8 h12) (xs (i + 1)) (xs (i + 2)) (sB (xs (i + 3))) rfl h0 h1) ch_RL_78 (Nat.le_of_ble_eq_true rfl) (Nat.le_of_ble_eq_true rfl) hz hP hI hK hS rfl hl.1 rfl (Nat.le_of_ble_eq_true rfl) ⟨by show 40 + 60 * k + 60 ≤ 603072; omega, by show 2000 + 2000 * k + 2000 ≤ 7219306; omega⟩ dL_law_300 (fun H locs hz1 hP hI hS => ?_)
  have hz := Nat.le_trans hz hz1
  refine W.widen (k := 40 + 60 * (k + 1)) (n := 2000 + 2000 * (k + 1)) (by omega) (by omega) ?_
  obtain ⟨s1, s2, s3, s4⟩ := s_place hR (xs (i + 1)) (xs (i + 2)) (sB (xs (i + 3))) h0 h1
  refine lv_istore (lv' := [(5, .int (cPlaceC dn (xs (i + 1)) (xs (i + 2)))), (0, .ref b), (1, .ref (ad 0)), (2, .ref (ad 100)), (3, .ref (ad 120)), (4, .int (nI i))]) hx hb dL_law_303 hl (by decide) rfl (fun ls hl => ?_)
  refine lv_aload_n hx hb dL_law_305 rfl (lv_at hl 3 rfl) ?_
  skip
  refine l_arg (j := 1) F dL_law_306 dL_law_307 dL_law_309 dL_law_310 dL_law_311 (by decide) hi hl (lv_sub hl [1, 5] rfl) hS ?_
  refine l_arg (j := 2) F dL_law_312 dL_law_313 dL_law_315 dL_law_316 dL_law_317 (by decide) hi hl (lv_sub hl [1, 5] rfl) hS ?_
  refine l_argB F dL_law_318 dL_law_319 dL_law_321 dL_law_322 dL_law_323 dL_law_324 dL_law_327 dL_law_328 dL_law_331 (by omega) (lv_sub hl [1, 5] rfl) hS ?_
  refine e_cVM (As := [.int (xs (i + 1)), .int (xs (i + 2)), .int (sB (xs (i + 3)))]) (rest := []) hx hb hml hown hts 100 (c_X4_place (l := l) (v := v9) dn ln KD_mK s1 (xs (i + 1)) (xs (i + 2)) (sB (xs (i + 3)))) cw_RL_81 (Nat.le_of_ble_eq_true rfl) (Nat.le_of_ble_eq_true rfl) hz hP hI hK hS (KD_mK 100 (by decide) (by decide)) (by decide) rfl rfl rfl hl.1 rfl (Nat.le_of_ble_eq_true rfl) ⟨by show 40 + 60 * (k + 1) + 0 ≤ 603072; omega, by show 2000 + 2000 * (k + 1) + 0 ≤ 7219306; omega⟩ dL_law_332 (fun H locs hz hP hS => ?_)
  refine lv_istore (lv' := [(6, .int (mPlaceV v9 dn (xs (i + 1)) (xs (i + 2)) (sB (xs (i + 3))))), (5, .int (cPlaceC dn (xs (i + 1)) (xs (i + 2)))), (0, .ref b), (1, .ref (ad 0)), (2, .ref (ad 100)), (3, .ref (ad 120)), (4, .int (nI i))]) hx hb dL_law_335 hl (by decide) rfl (fun ls hl => ?_)
  refine l_tail F dL_law_337 dL_law_338 dL_law_341 dL_law_343 dL_law_348 dL_law_350 dL_law_353 dL_law_354 dL_law_355 dL_law_356 dL_law_358 dL_law_359 dL_law_360 dL_law_365 (by decide) (by omega) cw_RL_70 hz hP hI KD_mK rfl s2 s3 (lv_sub hl [0, 1, 4, 5] rfl) ?_
  exact next dn ln ad _ H locs ls ⟨hz, hP, hI, hS, s4, h11⟩ (lv_sub hl [2, 3, 4, 5, 6] rfl)
set_option maxRecDepth 100000 in
set_option maxHeartbeats 4000000 in
theorem law_placeAnew {p : Program} {l : Launch} {e : Env} {s : State} {m : MethodId} {below : List Frame} {meth : Method} {c : Code} {b L : Nat} {xs : Nat → Int32} {X : eD} {t0 mi i k : Nat} (F : lFix p l s m c b L xs X t0 mi) (hi : i + 4 < L) (hk : k < 599) (next : lGo p l e s m below meth c b X t0 i (k + 1) 1102) : lGo p l e s m below meth c b X t0 i k 368 := by
  intro dn ln ad v H locs ls hWd hl
  obtain ⟨hx, hb, hml, hown, hts, hX, hbl, hl9, hK, hT, hL, hN, hL0⟩ := id F
  obtain ⟨hz, hP, hI, hS, hR, h11⟩ := hWd
  have h8 := hR.d8
  have h12 := hR.l12
  obtain ⟨v9, h0, h1⟩ : ∃ v9 : eV, (cPlaceC dn (xs (i + 1)) (xs (i + 2)) = 0 → e_set v 120 0 (cAnewV v (xs (i + 1)) (xs (i + 2)) (sB (xs (i + 3)))) = v9) ∧ (¬ cPlaceC dn (xs (i + 1)) (xs (i + 2)) = 0 → v = v9) := ex_v _ _
  refine lv_aload_n hx hb dL_law_368 rfl (lv_at hl 1 rfl) ?_
  refine l_arg (j := 1) F dL_law_369 dL_law_370 dL_law_372 dL_law_373 dL_law_374 (by decide) hi hl (lv_sub hl [0, 4] rfl) hS ?_
  refine l_arg (j := 2) F dL_law_375 dL_law_376 dL_law_378 dL_law_379 dL_law_380 (by decide) hi hl (lv_sub hl [0, 4] rfl) hS ?_
  refine l_argB F dL_law_381 dL_law_382 dL_law_384 dL_law_385 dL_law_386 dL_law_387 dL_law_390 dL_law_391 dL_law_394 (by omega) (lv_sub hl [0, 4] rfl) hS ?_
  refine lv_aload_n hx hb dL_law_395 rfl (lv_at hl 3 rfl) ?_
  refine e_cSH (As := [.ref (ad 0), .int (xs (i + 1)), .int (xs (i + 2)), .int (sB (xs (i + 3))), .ref (ad 120)]) (rest := []) (kd' := KD dn ln) (sp' := SP dn ln) (v' := v9) hx hb hml hown hts hT hL hN (c_L_placeAnew (l := l) hl9 (v := v) (t0 := t0) (mi := mi) (KD_cK h8 h12) (xs (i + 1)) (xs (i + 2)) (sB (xs (i + 3))) rfl h0 h1) ch_RL_82 (Nat.le_of_ble_eq_true rfl) (Nat.le_of_ble_eq_true rfl) hz hP hI hK hS rfl hl.1 rfl (Nat.le_of_ble_eq_true rfl) ⟨by show 40 + 60 * k + 60 ≤ 603072; omega, by show 2000 + 2000 * k + 2000 ≤ 7219306; omega⟩ dL_law_396 (fun H locs hz1 hP hI hS => ?_)
  have hz := Nat.le_trans hz hz1
  refine W.widen (k := 40 + 60 * (k + 1)) (n := 2000 + 2000 * (k + 1)) (by omega) (by omega) ?_
  obtain ⟨s1, s2, s3, s4⟩ := s_anew hR (xs (i + 1)) (xs (i + 2)) (sB (xs (i + 3))) h0 h1
  refine lv_istore (lv' := [(5, .int (cPlaceC dn (xs (i + 1)) (xs (i + 2)))), (0, .ref b), (1, .ref (ad 0)), (2, .ref (ad 100)), (3, .ref (ad 120)), (4, .int (nI i))]) hx hb dL_law_399 hl (by decide) rfl (fun ls hl => ?_)
  refine lv_aload_n hx hb dL_law_401 rfl (lv_at hl 3 rfl) ?_
  skip
  refine l_arg (j := 1) F dL_law_402 dL_law_403 dL_law_405 dL_law_406 dL_law_407 (by decide) hi hl (lv_sub hl [1, 5] rfl) hS ?_
  refine l_arg (j := 2) F dL_law_408 dL_law_409 dL_law_411 dL_law_412 dL_law_413 (by decide) hi hl (lv_sub hl [1, 5] rfl) hS ?_
  refine l_argB F dL_law_414 dL_law_415 dL_law_417 dL_law_418 dL_law_419 dL_law_420 dL_law_423 dL_law_424 dL_law_427 (by omega) (lv_sub hl [1, 5] rfl) hS ?_
  refine e_cVM (As := [.int (xs (i + 1)), .int (xs (i + 2)), .int (sB (xs (i + 3)))]) (rest := []) hx hb hml hown hts 100 (c_X4_placeAnew (l := l) (v := v9) dn ln KD_mK s1 (xs (i + 1)) (xs (i + 2)) (sB (xs (i + 3)))) cw_RL_84 (Nat.le_of_ble_eq_true rfl) (Nat.le_of_ble_eq_true rfl) hz hP hI hK hS (KD_mK 100 (by decide) (by decide)) (by decide) rfl rfl rfl hl.1 rfl (Nat.le_of_ble_eq_true rfl) ⟨by show 40 + 60 * (k + 1) + 0 ≤ 603072; omega, by show 2000 + 2000 * (k + 1) + 0 ≤ 7219306; omega⟩ dL_law_428 (fun H locs hz hP hS => ?_)
  refine lv_istore (lv' := [(6, .int (mPlaceV v9 dn (xs (i + 1)) (xs (i + 2)) (sB (xs (i + 3))))), (5, .int (cPlaceC dn (xs (i + 1)) (xs (i + 2)))), (0, .ref b), (1, .ref (ad 0)), (2, .ref (ad 100)), (3, .ref (ad 120)), (4, .int (nI i))]) hx hb dL_law_431 hl (by decide) rfl (fun ls hl => ?_)
  refine l_tail F dL_law_433 dL_law_434 dL_law_437 dL_law_439 dL_law_444 dL_law_446 dL_law_449 dL_law_450 dL_law_451 dL_law_452 dL_law_454 dL_law_455 dL_law_456 dL_law_461 (by decide) (by omega) cw_RL_70 hz hP hI KD_mK rfl s2 s3 (lv_sub hl [0, 1, 4, 5] rfl) ?_
  exact next dn ln ad _ H locs ls ⟨hz, hP, hI, hS, s4, h11⟩ (lv_sub hl [2, 3, 4, 5, 6] rfl)
set_option maxRecDepth 100000 in
set_option maxHeartbeats 4000000 in
theorem law_clashes {p : Program} {l : Launch} {e : Env} {s : State} {m : MethodId} {below : List Frame} {meth : Method} {c : Code} {b L : Nat} {xs : Nat → Int32} {X : eD} {t0 mi i k : Nat} (F : lFix p l s m c b L xs X t0 mi) (hi : i + 4 < L) (hk : k < 599) (next : lGo p l e s m below meth c b X t0 i (k + 1) 1102) : lGo p l e s m below meth c b X t0 i k 464 := by
  intro dn ln ad v H locs ls hWd hl
  obtain ⟨hx, hb, hml, hown, hts, hX, hbl, hl9, hK, hT, hL, hN, hL0⟩ := id F
  obtain ⟨hz, hP, hI, hS, hR, h11⟩ := hWd
  have h8 := hR.d8
  have h12 := hR.l12
  obtain ⟨v9, h0, h1⟩ : ∃ v9 : eV, (cClashesC (xs (i + 1)) = 0 → e_set v 120 0 (cClash v (nN (xs (i + 1))) dn dn) = v9) ∧ (¬ cClashesC (xs (i + 1)) = 0 → v = v9) := ex_v _ _
  refine lv_aload_n hx hb dL_law_464 rfl (lv_at hl 1 rfl) ?_
  refine l_arg (j := 1) F dL_law_465 dL_law_466 dL_law_468 dL_law_469 dL_law_470 (by decide) hi hl (lv_sub hl [0, 4] rfl) hS ?_
  refine lv_aload_n hx hb dL_law_471 rfl (lv_at hl 3 rfl) ?_
  refine e_cSH (As := [.ref (ad 0), .int (xs (i + 1)), .ref (ad 120)]) (rest := []) (kd' := KD dn ln) (sp' := SP dn ln) (v' := v9) hx hb hml hown hts hT hL hN (c_L_clashes (l := l) hl9 (v := v) (t0 := t0) (mi := mi) (KD_cK h8 h12) (xs (i + 1)) rfl h0 h1) ch_RL_85 (Nat.le_of_ble_eq_true rfl) (Nat.le_of_ble_eq_true rfl) hz hP hI hK hS rfl hl.1 rfl (Nat.le_of_ble_eq_true rfl) ⟨by show 40 + 60 * k + 60 ≤ 603072; omega, by show 2000 + 2000 * k + 2000 ≤ 7219306; omega⟩ dL_law_472 (fun H locs hz1 hP hI hS => ?_)
  have hz := Nat.le_trans hz hz1
  refine W.widen (k := 40 + 60 * (k + 1)) (n := 2000 + 2000 * (k + 1)) (by omega) (by omega) ?_
  obtain ⟨s1, s2, s3, s4⟩ := s_clashes hR (xs (i + 1)) h0 h1
  refine lv_istore (lv' := [(5, .int (cClashesC (xs (i + 1)))), (0, .ref b), (1, .ref (ad 0)), (2, .ref (ad 100)), (3, .ref (ad 120)), (4, .int (nI i))]) hx hb dL_law_475 hl (by decide) rfl (fun ls hl => ?_)
  refine lv_aload_n hx hb dL_law_477 rfl (lv_at hl 3 rfl) ?_
  skip
  refine l_arg (j := 1) F dL_law_478 dL_law_479 dL_law_481 dL_law_482 dL_law_483 (by decide) hi hl (lv_sub hl [1, 5] rfl) hS ?_
  refine e_cVM (As := [.int (xs (i + 1))]) (rest := []) hx hb hml hown hts 100 (c_X4_clashes (l := l) (v := v9) dn ln KD_mK s1 (xs (i + 1))) cw_RL_88 (Nat.le_of_ble_eq_true rfl) (Nat.le_of_ble_eq_true rfl) hz hP hI hK hS (KD_mK 100 (by decide) (by decide)) (by decide) rfl rfl rfl hl.1 rfl (Nat.le_of_ble_eq_true rfl) ⟨by show 40 + 60 * (k + 1) + 0 ≤ 603072; omega, by show 2000 + 2000 * (k + 1) + 0 ≤ 7219306; omega⟩ dL_law_484 (fun H locs hz hP hS => ?_)
  refine lv_istore (lv' := [(6, .int (mClashesV v9 dn (xs (i + 1)))), (5, .int (cClashesC (xs (i + 1)))), (0, .ref b), (1, .ref (ad 0)), (2, .ref (ad 100)), (3, .ref (ad 120)), (4, .int (nI i))]) hx hb dL_law_487 hl (by decide) rfl (fun ls hl => ?_)
  refine l_tail F dL_law_489 dL_law_490 dL_law_493 dL_law_495 dL_law_500 dL_law_502 dL_law_505 dL_law_506 dL_law_507 dL_law_508 dL_law_510 dL_law_511 dL_law_512 dL_law_517 (by decide) (by omega) cw_RL_70 hz hP hI KD_mK rfl s2 s3 (lv_sub hl [0, 1, 4, 5] rfl) ?_
  exact next dn ln ad _ H locs ls ⟨hz, hP, hI, hS, s4, h11⟩ (lv_sub hl [2, 3, 4, 5, 6] rfl)
set_option maxRecDepth 100000 in
set_option maxHeartbeats 4000000 in
theorem law_ofLift {p : Program} {l : Launch} {e : Env} {s : State} {m : MethodId} {below : List Frame} {meth : Method} {c : Code} {b L : Nat} {xs : Nat → Int32} {X : eD} {t0 mi i k : Nat} (F : lFix p l s m c b L xs X t0 mi) (hi : i + 4 < L) (hk : k < 599) (next : lGo p l e s m below meth c b X t0 i (k + 1) 1102) : lGo p l e s m below meth c b X t0 i k 625 := by
  intro dn ln ad v H locs ls hWd hl
  obtain ⟨hx, hb, hml, hown, hts, hX, hbl, hl9, hK, hT, hL, hN, hL0⟩ := id F
  obtain ⟨hz, hP, hI, hS, hR, h11⟩ := hWd
  have h8 := hR.d8
  have h12 := hR.l12
  obtain ⟨v9, h0, h1⟩ : ∃ v9 : eV, (cOfLiftC ln (xs (i + 1)) (xs (i + 2)) = 0 → e_set v 120 0 (cOfLiftV v ln (xs (i + 1)) (xs (i + 2))) = v9) ∧ (¬ cOfLiftC ln (xs (i + 1)) (xs (i + 2)) = 0 → v = v9) := ex_v _ _
  refine lv_aload_n hx hb dL_law_625 rfl (lv_at hl 1 rfl) ?_
  refine l_arg (j := 1) F dL_law_626 dL_law_627 dL_law_629 dL_law_630 dL_law_631 (by decide) hi hl (lv_sub hl [0, 4] rfl) hS ?_
  refine l_arg (j := 2) F dL_law_632 dL_law_633 dL_law_635 dL_law_636 dL_law_637 (by decide) hi hl (lv_sub hl [0, 4] rfl) hS ?_
  refine lv_aload_n hx hb dL_law_638 rfl (lv_at hl 3 rfl) ?_
  refine e_cSH (As := [.ref (ad 0), .int (xs (i + 1)), .int (xs (i + 2)), .ref (ad 120)]) (rest := []) (kd' := KD dn ln) (sp' := SP dn ln) (v' := v9) hx hb hml hown hts hT hL hN (c_L_ofLift (l := l) hl9 (v := v) (t0 := t0) (mi := mi) (KD_cK h8 h12) hR.cI (xs (i + 1)) (xs (i + 2)) rfl h0 h1) ch_RL_96 (Nat.le_of_ble_eq_true rfl) (Nat.le_of_ble_eq_true rfl) hz hP hI hK hS rfl hl.1 rfl (Nat.le_of_ble_eq_true rfl) ⟨by show 40 + 60 * k + 60 ≤ 603072; omega, by show 2000 + 2000 * k + 2000 ≤ 7219306; omega⟩ dL_law_639 (fun H locs hz1 hP hI hS => ?_)
  have hz := Nat.le_trans hz hz1
  refine W.widen (k := 40 + 60 * (k + 1)) (n := 2000 + 2000 * (k + 1)) (by omega) (by omega) ?_
  obtain ⟨s1, s2, s3, s4⟩ := s_ofLift hR (xs (i + 1)) (xs (i + 2)) h0 h1
  refine lv_istore (lv' := [(5, .int (cOfLiftC ln (xs (i + 1)) (xs (i + 2)))), (0, .ref b), (1, .ref (ad 0)), (2, .ref (ad 100)), (3, .ref (ad 120)), (4, .int (nI i))]) hx hb dL_law_642 hl (by decide) rfl (fun ls hl => ?_)
  refine lv_aload_n hx hb dL_law_644 rfl (lv_at hl 3 rfl) ?_
  skip
  refine l_arg (j := 1) F dL_law_645 dL_law_646 dL_law_648 dL_law_649 dL_law_650 (by decide) hi hl (lv_sub hl [1, 5] rfl) hS ?_
  refine l_arg (j := 2) F dL_law_651 dL_law_652 dL_law_654 dL_law_655 dL_law_656 (by decide) hi hl (lv_sub hl [1, 5] rfl) hS ?_
  refine e_cVM (As := [.int (xs (i + 1)), .int (xs (i + 2))]) (rest := []) hx hb hml hown hts 100 (c_X4_ofLift (l := l) (v := v9) dn ln KD_mK s1 (xs (i + 1)) (xs (i + 2))) cw_RL_98 (Nat.le_of_ble_eq_true rfl) (Nat.le_of_ble_eq_true rfl) hz hP hI hK hS (KD_mK 100 (by decide) (by decide)) (by decide) rfl rfl rfl hl.1 rfl (Nat.le_of_ble_eq_true rfl) ⟨by show 40 + 60 * (k + 1) + 0 ≤ 603072; omega, by show 2000 + 2000 * (k + 1) + 0 ≤ 7219306; omega⟩ dL_law_657 (fun H locs hz hP hS => ?_)
  refine lv_istore (lv' := [(6, .int (mOfLiftV v9 ln (xs (i + 1)) (xs (i + 2)))), (5, .int (cOfLiftC ln (xs (i + 1)) (xs (i + 2)))), (0, .ref b), (1, .ref (ad 0)), (2, .ref (ad 100)), (3, .ref (ad 120)), (4, .int (nI i))]) hx hb dL_law_660 hl (by decide) rfl (fun ls hl => ?_)
  refine l_tail F dL_law_662 dL_law_663 dL_law_666 dL_law_668 dL_law_673 dL_law_675 dL_law_678 dL_law_679 dL_law_680 dL_law_681 dL_law_683 dL_law_684 dL_law_685 dL_law_690 (by decide) (by omega) cw_RL_70 hz hP hI KD_mK rfl s2 s3 (lv_sub hl [0, 1, 4, 5] rfl) ?_
  exact next dn ln ad _ H locs ls ⟨hz, hP, hI, hS, s4, h11⟩ (lv_sub hl [2, 3, 4, 5, 6] rfl)
set_option maxRecDepth 100000 in
set_option maxHeartbeats 4000000 in
theorem law_tempo {p : Program} {l : Launch} {e : Env} {s : State} {m : MethodId} {below : List Frame} {meth : Method} {c : Code} {b L : Nat} {xs : Nat → Int32} {X : eD} {t0 mi i k : Nat} (F : lFix p l s m c b L xs X t0 mi) (hi : i + 4 < L) (hk : k < 599) (next : lGo p l e s m below meth c b X t0 i (k + 1) 1102) : lGo p l e s m below meth c b X t0 i k 693 := by
  intro dn ln ad v H locs ls hWd hl
  obtain ⟨hx, hb, hml, hown, hts, hX, hbl, hl9, hK, hT, hL, hN, hL0⟩ := id F
  obtain ⟨hz, hP, hI, hS, hR, h11⟩ := hWd
  have h8 := hR.d8
  have h12 := hR.l12
  obtain ⟨v9, h0, h1⟩ : ∃ v9 : eV, (cTempoC (xs (i + 1)) (xs (i + 2)) = 0 → e_set (e_set v 3 (nN (xs (i + 1))) (xs (i + 2))) 120 0 (cLast v (nN (xs (i + 1)))) = v9) ∧ (¬ cTempoC (xs (i + 1)) (xs (i + 2)) = 0 → v = v9) := ex_v _ _
  refine lv_aload_n hx hb dL_law_693 rfl (lv_at hl 1 rfl) ?_
  refine l_arg (j := 1) F dL_law_694 dL_law_695 dL_law_697 dL_law_698 dL_law_699 (by decide) hi hl (lv_sub hl [0, 4] rfl) hS ?_
  refine l_arg (j := 2) F dL_law_700 dL_law_701 dL_law_703 dL_law_704 dL_law_705 (by decide) hi hl (lv_sub hl [0, 4] rfl) hS ?_
  refine lv_aload_n hx hb dL_law_706 rfl (lv_at hl 3 rfl) ?_
  refine e_cSH (As := [.ref (ad 0), .int (xs (i + 1)), .int (xs (i + 2)), .ref (ad 120)]) (rest := []) (kd' := KD dn ln) (sp' := SP dn ln) (v' := v9) hx hb hml hown hts hT hL hN (c_L_tempo (l := l) hl9 (v := v) (t0 := t0) (mi := mi) (KD_cK h8 h12) (xs (i + 1)) (xs (i + 2)) rfl h0 h1) ch_RL_99 (Nat.le_of_ble_eq_true rfl) (Nat.le_of_ble_eq_true rfl) hz hP hI hK hS rfl hl.1 rfl (Nat.le_of_ble_eq_true rfl) ⟨by show 40 + 60 * k + 60 ≤ 603072; omega, by show 2000 + 2000 * k + 2000 ≤ 7219306; omega⟩ dL_law_707 (fun H locs hz1 hP hI hS => ?_)
  have hz := Nat.le_trans hz hz1
  refine W.widen (k := 40 + 60 * (k + 1)) (n := 2000 + 2000 * (k + 1)) (by omega) (by omega) ?_
  obtain ⟨s1, s2, s3, s4⟩ := s_tempo hR (xs (i + 1)) (xs (i + 2)) h0 h1
  refine lv_istore (lv' := [(5, .int (cTempoC (xs (i + 1)) (xs (i + 2)))), (0, .ref b), (1, .ref (ad 0)), (2, .ref (ad 100)), (3, .ref (ad 120)), (4, .int (nI i))]) hx hb dL_law_710 hl (by decide) rfl (fun ls hl => ?_)
  refine lv_aload_n hx hb dL_law_712 rfl (lv_at hl 3 rfl) ?_
  skip
  refine l_arg (j := 1) F dL_law_713 dL_law_714 dL_law_716 dL_law_717 dL_law_718 (by decide) hi hl (lv_sub hl [1, 5] rfl) hS ?_
  refine l_arg (j := 2) F dL_law_719 dL_law_720 dL_law_722 dL_law_723 dL_law_724 (by decide) hi hl (lv_sub hl [1, 5] rfl) hS ?_
  refine e_cVM (As := [.int (xs (i + 1)), .int (xs (i + 2))]) (rest := []) hx hb hml hown hts 100 (c_X4_tempo (l := l) (v := v9) KD_mK (xs (i + 1)) (xs (i + 2))) cw_RL_101 (Nat.le_of_ble_eq_true rfl) (Nat.le_of_ble_eq_true rfl) hz hP hI hK hS (KD_mK 100 (by decide) (by decide)) (by decide) rfl rfl rfl hl.1 rfl (Nat.le_of_ble_eq_true rfl) ⟨by show 40 + 60 * (k + 1) + 0 ≤ 603072; omega, by show 2000 + 2000 * (k + 1) + 0 ≤ 7219306; omega⟩ dL_law_725 (fun H locs hz hP hS => ?_)
  refine lv_istore (lv' := [(6, .int (mTempoV v9 (xs (i + 1)) (xs (i + 2)))), (5, .int (cTempoC (xs (i + 1)) (xs (i + 2)))), (0, .ref b), (1, .ref (ad 0)), (2, .ref (ad 100)), (3, .ref (ad 120)), (4, .int (nI i))]) hx hb dL_law_728 hl (by decide) rfl (fun ls hl => ?_)
  refine l_tail F dL_law_730 dL_law_731 dL_law_734 dL_law_736 dL_law_741 dL_law_743 dL_law_746 dL_law_747 dL_law_748 dL_law_749 dL_law_751 dL_law_752 dL_law_753 dL_law_758 (by decide) (by omega) cw_RL_70 hz hP hI KD_mK rfl s2 s3 (lv_sub hl [0, 1, 4, 5] rfl) ?_
  exact next dn ln ad _ H locs ls ⟨hz, hP, hI, hS, s4, h11⟩ (lv_sub hl [2, 3, 4, 5, 6] rfl)
set_option maxRecDepth 100000 in
set_option maxHeartbeats 4000000 in
theorem law_begins {p : Program} {l : Launch} {e : Env} {s : State} {m : MethodId} {below : List Frame} {meth : Method} {c : Code} {b L : Nat} {xs : Nat → Int32} {X : eD} {t0 mi i k : Nat} (F : lFix p l s m c b L xs X t0 mi) (hi : i + 4 < L) (hk : k < 599) (next : lGo p l e s m below meth c b X t0 i (k + 1) 1102) : lGo p l e s m below meth c b X t0 i k 761 := by
  intro dn ln ad v H locs ls hWd hl
  obtain ⟨hx, hb, hml, hown, hts, hX, hbl, hl9, hK, hT, hL, hN, hL0⟩ := id F
  obtain ⟨hz, hP, hI, hS, hR, h11⟩ := hWd
  have h8 := hR.d8
  have h12 := hR.l12
  obtain ⟨v9, h0, h1⟩ : ∃ v9 : eV, (cBeginsC v (xs (i + 1)) = 0 → e_set v 120 0 ((cSum v (nN (xs (i + 1)))).toInt32) = v9) ∧ (¬ cBeginsC v (xs (i + 1)) = 0 → v = v9) := ex_v _ _
  refine lv_aload_n hx hb dL_law_761 rfl (lv_at hl 1 rfl) ?_
  refine l_arg (j := 1) F dL_law_762 dL_law_763 dL_law_765 dL_law_766 dL_law_767 (by decide) hi hl (lv_sub hl [0, 4] rfl) hS ?_
  refine lv_aload_n hx hb dL_law_768 rfl (lv_at hl 3 rfl) ?_
  refine e_cSH (As := [.ref (ad 0), .int (xs (i + 1)), .ref (ad 120)]) (rest := []) (kd' := KD dn ln) (sp' := SP dn ln) (v' := v9) hx hb hml hown hts hT hL hN (c_L_begins (l := l) hl9 (v := v) (t0 := t0) (mi := mi) (KD_cK h8 h12) (xs (i + 1)) rfl h0 h1) ch_RL_102 (Nat.le_of_ble_eq_true rfl) (Nat.le_of_ble_eq_true rfl) hz hP hI hK hS rfl hl.1 rfl (Nat.le_of_ble_eq_true rfl) ⟨by show 40 + 60 * k + 60 ≤ 603072; omega, by show 2000 + 2000 * k + 2000 ≤ 7219306; omega⟩ dL_law_769 (fun H locs hz1 hP hI hS => ?_)
  have hz := Nat.le_trans hz hz1
  refine W.widen (k := 40 + 60 * (k + 1)) (n := 2000 + 2000 * (k + 1)) (by omega) (by omega) ?_
  obtain ⟨s1, s2, s3, s4⟩ := s_begins hR (xs (i + 1)) h0 h1
  refine lv_istore (lv' := [(5, .int (cBeginsC v (xs (i + 1)))), (0, .ref b), (1, .ref (ad 0)), (2, .ref (ad 100)), (3, .ref (ad 120)), (4, .int (nI i))]) hx hb dL_law_772 hl (by decide) rfl (fun ls hl => ?_)
  refine lv_aload_n hx hb dL_law_774 rfl (lv_at hl 3 rfl) ?_
  skip
  refine l_arg (j := 1) F dL_law_775 dL_law_776 dL_law_778 dL_law_779 dL_law_780 (by decide) hi hl (lv_sub hl [1, 5] rfl) hS ?_
  refine e_cVM (As := [.int (xs (i + 1))]) (rest := []) hx hb hml hown hts 100 (c_X4_begins (l := l) (v := v9) KD_mK (xs (i + 1))) cw_RL_104 (Nat.le_of_ble_eq_true rfl) (Nat.le_of_ble_eq_true rfl) hz hP hI hK hS (KD_mK 100 (by decide) (by decide)) (by decide) rfl rfl rfl hl.1 rfl (Nat.le_of_ble_eq_true rfl) ⟨by show 40 + 60 * (k + 1) + 0 ≤ 603072; omega, by show 2000 + 2000 * (k + 1) + 0 ≤ 7219306; omega⟩ dL_law_781 (fun H locs hz hP hS => ?_)
  refine lv_istore (lv' := [(6, .int (mBeginsV v9 (xs (i + 1)))), (5, .int (cBeginsC v (xs (i + 1)))), (0, .ref b), (1, .ref (ad 0)), (2, .ref (ad 100)), (3, .ref (ad 120)), (4, .int (nI i))]) hx hb dL_law_784 hl (by decide) rfl (fun ls hl => ?_)
  refine l_tail F dL_law_786 dL_law_787 dL_law_790 dL_law_792 dL_law_797 dL_law_799 dL_law_802 dL_law_803 dL_law_804 dL_law_805 dL_law_807 dL_law_808 dL_law_809 dL_law_814 (by decide) (by omega) cw_RL_70 hz hP hI KD_mK rfl s2 s3 (lv_sub hl [0, 1, 4, 5] rfl) ?_
  exact next dn ln ad _ H locs ls ⟨hz, hP, hI, hS, s4, h11⟩ (lv_sub hl [2, 3, 4, 5, 6] rfl)
set_option maxRecDepth 100000 in
set_option maxHeartbeats 4000000 in
theorem law_rehearse {p : Program} {l : Launch} {e : Env} {s : State} {m : MethodId} {below : List Frame} {meth : Method} {c : Code} {b L : Nat} {xs : Nat → Int32} {X : eD} {t0 mi i k : Nat} (F : lFix p l s m c b L xs X t0 mi) (hi : i + 4 < L) (hk : k < 599) (next : lGo p l e s m below meth c b X t0 i (k + 1) 1102) : lGo p l e s m below meth c b X t0 i k 817 := by
  intro dn ln ad v H locs ls hWd hl
  obtain ⟨hx, hb, hml, hown, hts, hX, hbl, hl9, hK, hT, hL, hN, hL0⟩ := id F
  obtain ⟨hz, hP, hI, hS, hR, h11⟩ := hWd
  have h8 := hR.d8
  have h12 := hR.l12
  obtain ⟨v9, h0, h1⟩ : ∃ v9 : eV, (cRehC v dn ln (xs (i + 1)) (xs (i + 2)) (xs (i + 3)) (xs (i + 4)) = 0 → e_set (cRehS v dn ln (nN (xs (i + 1))) (nN (xs (i + 2))) (nN (xs (i + 3))) (nN (xs (i + 4)))) 120 0 (cParts v ln (nN (xs (i + 3))) (nN (xs (i + 4))) dn) = v9) ∧ (¬ cRehC v dn ln (xs (i + 1)) (xs (i + 2)) (xs (i + 3)) (xs (i + 4)) = 0 → v = v9) := ex_v _ _
  refine lv_aload_n hx hb dL_law_817 rfl (lv_at hl 1 rfl) ?_
  refine l_arg (j := 1) F dL_law_818 dL_law_819 dL_law_821 dL_law_822 dL_law_823 (by decide) hi hl (lv_sub hl [0, 4] rfl) hS ?_
  refine l_arg (j := 2) F dL_law_824 dL_law_825 dL_law_827 dL_law_828 dL_law_829 (by decide) hi hl (lv_sub hl [0, 4] rfl) hS ?_
  refine l_arg (j := 3) F dL_law_830 dL_law_831 dL_law_833 dL_law_834 dL_law_835 (by decide) hi hl (lv_sub hl [0, 4] rfl) hS ?_
  refine l_arg (j := 4) F dL_law_836 dL_law_837 dL_law_839 dL_law_840 dL_law_841 (by decide) hi hl (lv_sub hl [0, 4] rfl) hS ?_
  refine lv_aload_n hx hb dL_law_842 rfl (lv_at hl 3 rfl) ?_
  refine e_cSH (As := [.ref (ad 0), .int (xs (i + 1)), .int (xs (i + 2)), .int (xs (i + 3)), .int (xs (i + 4)), .ref (ad 120)]) (rest := []) (kd' := KD dn ln) (sp' := SP dn ln) (v' := v9) hx hb hml hown hts hT hL hN (c_L_rehearse (l := l) hl9 (v := v) (t0 := t0) (mi := mi) (KD_cK h8 h12) hR.cI (xs (i + 1)) (xs (i + 2)) (xs (i + 3)) (xs (i + 4)) rfl h0 h1) ch_RL_105 (Nat.le_of_ble_eq_true rfl) (Nat.le_of_ble_eq_true rfl) hz hP hI hK hS rfl hl.1 rfl (Nat.le_of_ble_eq_true rfl) ⟨by show 40 + 60 * k + 60 ≤ 603072; omega, by show 2000 + 2000 * k + 2000 ≤ 7219306; omega⟩ dL_law_843 (fun H locs hz1 hP hI hS => ?_)
  have hz := Nat.le_trans hz hz1
  refine W.widen (k := 40 + 60 * (k + 1)) (n := 2000 + 2000 * (k + 1)) (by omega) (by omega) ?_
  obtain ⟨s1, s2, s3, s4⟩ := s_rehearse hR (xs (i + 1)) (xs (i + 2)) (xs (i + 3)) (xs (i + 4)) h0 h1
  refine lv_istore (lv' := [(5, .int (cRehC v dn ln (xs (i + 1)) (xs (i + 2)) (xs (i + 3)) (xs (i + 4)))), (0, .ref b), (1, .ref (ad 0)), (2, .ref (ad 100)), (3, .ref (ad 120)), (4, .int (nI i))]) hx hb dL_law_846 hl (by decide) rfl (fun ls hl => ?_)
  refine lv_aload_n hx hb dL_law_848 rfl (lv_at hl 3 rfl) ?_
  skip
  refine l_arg (j := 1) F dL_law_849 dL_law_850 dL_law_852 dL_law_853 dL_law_854 (by decide) hi hl (lv_sub hl [1, 5] rfl) hS ?_
  refine l_arg (j := 2) F dL_law_855 dL_law_856 dL_law_858 dL_law_859 dL_law_860 (by decide) hi hl (lv_sub hl [1, 5] rfl) hS ?_
  refine l_arg (j := 3) F dL_law_861 dL_law_862 dL_law_864 dL_law_865 dL_law_866 (by decide) hi hl (lv_sub hl [1, 5] rfl) hS ?_
  refine l_arg (j := 4) F dL_law_867 dL_law_868 dL_law_870 dL_law_871 dL_law_872 (by decide) hi hl (lv_sub hl [1, 5] rfl) hS ?_
  refine e_cVM (As := [.int (xs (i + 1)), .int (xs (i + 2)), .int (xs (i + 3)), .int (xs (i + 4))]) (rest := []) hx hb hml hown hts 100 (c_X4_rehearse (l := l) (v := v9) dn ln KD_mK s1 (xs (i + 1)) (xs (i + 2)) (xs (i + 3)) (xs (i + 4))) cw_RL_107 (Nat.le_of_ble_eq_true rfl) (Nat.le_of_ble_eq_true rfl) hz hP hI hK hS (KD_mK 100 (by decide) (by decide)) (by decide) rfl rfl rfl hl.1 rfl (Nat.le_of_ble_eq_true rfl) ⟨by show 40 + 60 * (k + 1) + 0 ≤ 603072; omega, by show 2000 + 2000 * (k + 1) + 0 ≤ 7219306; omega⟩ dL_law_873 (fun H locs hz hP hS => ?_)
  refine lv_istore (lv' := [(6, .int (mRehV v9 dn ln (xs (i + 1)) (xs (i + 2)) (xs (i + 3)) (xs (i + 4)))), (5, .int (cRehC v dn ln (xs (i + 1)) (xs (i + 2)) (xs (i + 3)) (xs (i + 4)))), (0, .ref b), (1, .ref (ad 0)), (2, .ref (ad 100)), (3, .ref (ad 120)), (4, .int (nI i))]) hx hb dL_law_876 hl (by decide) rfl (fun ls hl => ?_)
  refine l_tail F dL_law_878 dL_law_879 dL_law_882 dL_law_884 dL_law_889 dL_law_891 dL_law_894 dL_law_895 dL_law_896 dL_law_897 dL_law_899 dL_law_900 dL_law_901 dL_law_906 (by decide) (by omega) cw_RL_70 hz hP hI KD_mK rfl s2 s3 (lv_sub hl [0, 1, 4, 5] rfl) ?_
  exact next dn ln ad _ H locs ls ⟨hz, hP, hI, hS, s4, h11⟩ (lv_sub hl [2, 3, 4, 5, 6] rfl)
set_option maxRecDepth 100000 in
set_option maxHeartbeats 4000000 in
theorem law_rehearsal {p : Program} {l : Launch} {e : Env} {s : State} {m : MethodId} {below : List Frame} {meth : Method} {c : Code} {b L : Nat} {xs : Nat → Int32} {X : eD} {t0 mi i k : Nat} (F : lFix p l s m c b L xs X t0 mi) (hi : i + 4 < L) (hk : k < 599) (next : lGo p l e s m below meth c b X t0 i (k + 1) 1102) : lGo p l e s m below meth c b X t0 i k 909 := by
  intro dn ln ad v H locs ls hWd hl
  obtain ⟨hx, hb, hml, hown, hts, hX, hbl, hl9, hK, hT, hL, hN, hL0⟩ := id F
  obtain ⟨hz, hP, hI, hS, hR, h11⟩ := hWd
  have h8 := hR.d8
  have h12 := hR.l12
  obtain ⟨v9, h0, h1⟩ : ∃ v9 : eV, (cRehearsalC (xs (i + 1)) (xs (i + 2)) = 0 → e_set v 120 0 (v (5 + nN (xs (i + 1))) (nN (xs (i + 2)) - 8)) = v9) ∧ (¬ cRehearsalC (xs (i + 1)) (xs (i + 2)) = 0 → v = v9) := ex_v _ _
  refine lv_aload_n hx hb dL_law_909 rfl (lv_at hl 1 rfl) ?_
  refine l_arg (j := 1) F dL_law_910 dL_law_911 dL_law_913 dL_law_914 dL_law_915 (by decide) hi hl (lv_sub hl [0, 4] rfl) hS ?_
  refine l_arg (j := 2) F dL_law_916 dL_law_917 dL_law_919 dL_law_920 dL_law_921 (by decide) hi hl (lv_sub hl [0, 4] rfl) hS ?_
  refine lv_aload_n hx hb dL_law_922 rfl (lv_at hl 3 rfl) ?_
  refine e_cSH (As := [.ref (ad 0), .int (xs (i + 1)), .int (xs (i + 2)), .ref (ad 120)]) (rest := []) (kd' := KD dn ln) (sp' := SP dn ln) (v' := v9) hx hb hml hown hts hT hL hN (c_L_rehearsal (l := l) hl9 (v := v) (t0 := t0) (mi := mi) (KD_cK h8 h12) (xs (i + 1)) (xs (i + 2)) rfl h0 h1) ch_RL_108 (Nat.le_of_ble_eq_true rfl) (Nat.le_of_ble_eq_true rfl) hz hP hI hK hS rfl hl.1 rfl (Nat.le_of_ble_eq_true rfl) ⟨by show 40 + 60 * k + 60 ≤ 603072; omega, by show 2000 + 2000 * k + 2000 ≤ 7219306; omega⟩ dL_law_923 (fun H locs hz1 hP hI hS => ?_)
  have hz := Nat.le_trans hz hz1
  refine W.widen (k := 40 + 60 * (k + 1)) (n := 2000 + 2000 * (k + 1)) (by omega) (by omega) ?_
  obtain ⟨s1, s2, s3, s4⟩ := s_rehearsal hR (xs (i + 1)) (xs (i + 2)) h0 h1
  refine lv_istore (lv' := [(5, .int (cRehearsalC (xs (i + 1)) (xs (i + 2)))), (0, .ref b), (1, .ref (ad 0)), (2, .ref (ad 100)), (3, .ref (ad 120)), (4, .int (nI i))]) hx hb dL_law_926 hl (by decide) rfl (fun ls hl => ?_)
  refine lv_aload_n hx hb dL_law_928 rfl (lv_at hl 3 rfl) ?_
  skip
  refine l_arg (j := 1) F dL_law_929 dL_law_930 dL_law_932 dL_law_933 dL_law_934 (by decide) hi hl (lv_sub hl [1, 5] rfl) hS ?_
  refine l_arg (j := 2) F dL_law_935 dL_law_936 dL_law_938 dL_law_939 dL_law_940 (by decide) hi hl (lv_sub hl [1, 5] rfl) hS ?_
  refine e_cVM (As := [.int (xs (i + 1)), .int (xs (i + 2))]) (rest := []) hx hb hml hown hts 100 (c_X4_rehearsal (l := l) (v := v9) KD_mK (xs (i + 1)) (xs (i + 2))) cw_RL_110 (Nat.le_of_ble_eq_true rfl) (Nat.le_of_ble_eq_true rfl) hz hP hI hK hS (KD_mK 100 (by decide) (by decide)) (by decide) rfl rfl rfl hl.1 rfl (Nat.le_of_ble_eq_true rfl) ⟨by show 40 + 60 * (k + 1) + 0 ≤ 603072; omega, by show 2000 + 2000 * (k + 1) + 0 ≤ 7219306; omega⟩ dL_law_941 (fun H locs hz hP hS => ?_)
  refine lv_istore (lv' := [(6, .int (mRehearsalV v9 (xs (i + 1)) (xs (i + 2)))), (5, .int (cRehearsalC (xs (i + 1)) (xs (i + 2)))), (0, .ref b), (1, .ref (ad 0)), (2, .ref (ad 100)), (3, .ref (ad 120)), (4, .int (nI i))]) hx hb dL_law_944 hl (by decide) rfl (fun ls hl => ?_)
  refine l_tail F dL_law_946 dL_law_947 dL_law_950 dL_law_952 dL_law_957 dL_law_959 dL_law_962 dL_law_963 dL_law_964 dL_law_965 dL_law_967 dL_law_968 dL_law_969 dL_law_974 (by decide) (by omega) cw_RL_70 hz hP hI KD_mK rfl s2 s3 (lv_sub hl [0, 1, 4, 5] rfl) ?_
  exact next dn ln ad _ H locs ls ⟨hz, hP, hI, hS, s4, h11⟩ (lv_sub hl [2, 3, 4, 5, 6] rfl)
set_option maxRecDepth 100000 in
set_option maxHeartbeats 4000000 in
theorem law_knees {p : Program} {l : Launch} {e : Env} {s : State} {m : MethodId} {below : List Frame} {meth : Method} {c : Code} {b L : Nat} {xs : Nat → Int32} {X : eD} {t0 mi i k : Nat} (F : lFix p l s m c b L xs X t0 mi) (hi : i + 4 < L) (hk : k < 599) (next : lGo p l e s m below meth c b X t0 i (k + 1) 1102) : lGo p l e s m below meth c b X t0 i k 977 := by
  intro dn ln ad v H locs ls hWd hl
  obtain ⟨hx, hb, hml, hown, hts, hX, hbl, hl9, hK, hT, hL, hN, hL0⟩ := id F
  obtain ⟨hz, hP, hI, hS, hR, h11⟩ := hWd
  have h8 := hR.d8
  have h12 := hR.l12
  obtain ⟨v9, h0, h1⟩ : ∃ v9 : eV, (cKneesC dn (xs (i + 1)) = 0 → e_set v 120 0 (v (20 + 7 * nN (xs (i + 1))) 2) = v9) ∧ (¬ cKneesC dn (xs (i + 1)) = 0 → v = v9) := ex_v _ _
  refine lv_aload_n hx hb dL_law_977 rfl (lv_at hl 1 rfl) ?_
  refine l_arg (j := 1) F dL_law_978 dL_law_979 dL_law_981 dL_law_982 dL_law_983 (by decide) hi hl (lv_sub hl [0, 4] rfl) hS ?_
  refine lv_aload_n hx hb dL_law_984 rfl (lv_at hl 3 rfl) ?_
  refine e_cSH (As := [.ref (ad 0), .int (xs (i + 1)), .ref (ad 120)]) (rest := []) (kd' := KD dn ln) (sp' := SP dn ln) (v' := v9) hx hb hml hown hts hT hL hN (c_L_knees (l := l) hl9 (v := v) (t0 := t0) (mi := mi) (KD_cK h8 h12) (xs (i + 1)) rfl h0 h1) ch_RL_111 (Nat.le_of_ble_eq_true rfl) (Nat.le_of_ble_eq_true rfl) hz hP hI hK hS rfl hl.1 rfl (Nat.le_of_ble_eq_true rfl) ⟨by show 40 + 60 * k + 60 ≤ 603072; omega, by show 2000 + 2000 * k + 2000 ≤ 7219306; omega⟩ dL_law_985 (fun H locs hz1 hP hI hS => ?_)
  have hz := Nat.le_trans hz hz1
  refine W.widen (k := 40 + 60 * (k + 1)) (n := 2000 + 2000 * (k + 1)) (by omega) (by omega) ?_
  obtain ⟨s1, s2, s3, s4⟩ := s_knees hR (xs (i + 1)) h0 h1
  refine lv_istore (lv' := [(5, .int (cKneesC dn (xs (i + 1)))), (0, .ref b), (1, .ref (ad 0)), (2, .ref (ad 100)), (3, .ref (ad 120)), (4, .int (nI i))]) hx hb dL_law_988 hl (by decide) rfl (fun ls hl => ?_)
  refine lv_aload_n hx hb dL_law_990 rfl (lv_at hl 3 rfl) ?_
  skip
  refine l_arg (j := 1) F dL_law_991 dL_law_992 dL_law_994 dL_law_995 dL_law_996 (by decide) hi hl (lv_sub hl [1, 5] rfl) hS ?_
  refine e_cVM (As := [.int (xs (i + 1))]) (rest := []) hx hb hml hown hts 100 (c_X4_knees (l := l) (v := v9) dn ln KD_mK s1 (xs (i + 1))) cw_RL_113 (Nat.le_of_ble_eq_true rfl) (Nat.le_of_ble_eq_true rfl) hz hP hI hK hS (KD_mK 100 (by decide) (by decide)) (by decide) rfl rfl rfl hl.1 rfl (Nat.le_of_ble_eq_true rfl) ⟨by show 40 + 60 * (k + 1) + 0 ≤ 603072; omega, by show 2000 + 2000 * (k + 1) + 0 ≤ 7219306; omega⟩ dL_law_997 (fun H locs hz hP hS => ?_)
  refine lv_istore (lv' := [(6, .int (mKneesV v9 dn (xs (i + 1)))), (5, .int (cKneesC dn (xs (i + 1)))), (0, .ref b), (1, .ref (ad 0)), (2, .ref (ad 100)), (3, .ref (ad 120)), (4, .int (nI i))]) hx hb dL_law_1000 hl (by decide) rfl (fun ls hl => ?_)
  refine l_tail F dL_law_1002 dL_law_1003 dL_law_1006 dL_law_1008 dL_law_1013 dL_law_1015 dL_law_1018 dL_law_1019 dL_law_1020 dL_law_1021 dL_law_1023 dL_law_1024 dL_law_1025 dL_law_1030 (by decide) (by omega) cw_RL_70 hz hP hI KD_mK rfl s2 s3 (lv_sub hl [0, 1, 4, 5] rfl) ?_
  exact next dn ln ad _ H locs ls ⟨hz, hP, hI, hS, s4, h11⟩ (lv_sub hl [2, 3, 4, 5, 6] rfl)
set_option maxRecDepth 100000 in
set_option maxHeartbeats 4000000 in
theorem law_hurt {p : Program} {l : Launch} {e : Env} {s : State} {m : MethodId} {below : List Frame} {meth : Method} {c : Code} {b L : Nat} {xs : Nat → Int32} {X : eD} {t0 mi i k : Nat} (F : lFix p l s m c b L xs X t0 mi) (hi : i + 4 < L) (hk : k < 599) (next : lGo p l e s m below meth c b X t0 i (k + 1) 1102) : lGo p l e s m below meth c b X t0 i k 1033 := by
  intro dn ln ad v H locs ls hWd hl
  obtain ⟨hx, hb, hml, hown, hts, hX, hbl, hl9, hK, hT, hL, hN, hL0⟩ := id F
  obtain ⟨hz, hP, hI, hS, hR, h11⟩ := hWd
  have h8 := hR.d8
  have h12 := hR.l12
  obtain ⟨v9, h0, h1⟩ : ∃ v9 : eV, (cHurtC v dn (xs (i + 1)) = 0 → e_set ((cMendAll (cHurt0 v ln (nN (xs (i + 1)))) dn ln (nN (xs (i + 1))) ln).1) 120 0 ((cMendAll (cHurt0 v ln (nN (xs (i + 1)))) dn ln (nN (xs (i + 1))) ln).2) = v9) ∧ (¬ cHurtC v dn (xs (i + 1)) = 0 → v = v9) := ex_v _ _
  refine lv_aload_n hx hb dL_law_1033 rfl (lv_at hl 1 rfl) ?_
  refine l_arg (j := 1) F dL_law_1034 dL_law_1035 dL_law_1037 dL_law_1038 dL_law_1039 (by decide) hi hl (lv_sub hl [0, 4] rfl) hS ?_
  refine lv_aload_n hx hb dL_law_1040 rfl (lv_at hl 3 rfl) ?_
  refine e_cSH (As := [.ref (ad 0), .int (xs (i + 1)), .ref (ad 120)]) (rest := []) (kd' := KD dn ln) (sp' := SP dn ln) (v' := v9) hx hb hml hown hts hT hL hN (c_L_hurt (l := l) hl9 (v := v) (t0 := t0) (mi := mi) (KD_cK h8 h12) hR.cI (xs (i + 1)) rfl h0 h1) ch_RL_114 (Nat.le_of_ble_eq_true rfl) (Nat.le_of_ble_eq_true rfl) hz hP hI hK hS rfl hl.1 rfl (Nat.le_of_ble_eq_true rfl) ⟨by show 40 + 60 * k + 60 ≤ 603072; omega, by show 2000 + 2000 * k + 2000 ≤ 7219306; omega⟩ dL_law_1041 (fun H locs hz1 hP hI hS => ?_)
  have hz := Nat.le_trans hz hz1
  refine W.widen (k := 40 + 60 * (k + 1)) (n := 2000 + 2000 * (k + 1)) (by omega) (by omega) ?_
  obtain ⟨s1, s2, s3, s4⟩ := s_hurt hR (xs (i + 1)) h0 h1
  refine lv_istore (lv' := [(5, .int (cHurtC v dn (xs (i + 1)))), (0, .ref b), (1, .ref (ad 0)), (2, .ref (ad 100)), (3, .ref (ad 120)), (4, .int (nI i))]) hx hb dL_law_1044 hl (by decide) rfl (fun ls hl => ?_)
  refine lv_aload_n hx hb dL_law_1046 rfl (lv_at hl 3 rfl) ?_
  skip
  refine l_arg (j := 1) F dL_law_1047 dL_law_1048 dL_law_1050 dL_law_1051 dL_law_1052 (by decide) hi hl (lv_sub hl [1, 5] rfl) hS ?_
  refine e_cVM (As := [.int (xs (i + 1))]) (rest := []) hx hb hml hown hts 100 (c_X4_hurt (l := l) (v := v9) dn ln KD_mK s1 (xs (i + 1))) cw_RL_116 (Nat.le_of_ble_eq_true rfl) (Nat.le_of_ble_eq_true rfl) hz hP hI hK hS (KD_mK 100 (by decide) (by decide)) (by decide) rfl rfl rfl hl.1 rfl (Nat.le_of_ble_eq_true rfl) ⟨by show 40 + 60 * (k + 1) + 0 ≤ 603072; omega, by show 2000 + 2000 * (k + 1) + 0 ≤ 7219306; omega⟩ dL_law_1053 (fun H locs hz hP hS => ?_)
  refine lv_istore (lv' := [(6, .int (mHurtV v9 dn ln (xs (i + 1)))), (5, .int (cHurtC v dn (xs (i + 1)))), (0, .ref b), (1, .ref (ad 0)), (2, .ref (ad 100)), (3, .ref (ad 120)), (4, .int (nI i))]) hx hb dL_law_1056 hl (by decide) rfl (fun ls hl => ?_)
  refine l_tail F dL_law_1058 dL_law_1059 dL_law_1062 dL_law_1064 dL_law_1069 dL_law_1071 dL_law_1074 dL_law_1075 dL_law_1076 dL_law_1077 dL_law_1079 dL_law_1080 dL_law_1081 dL_law_1086 (by decide) (by omega) cw_RL_70 hz hP hI KD_mK rfl s2 s3 (lv_sub hl [0, 1, 4, 5] rfl) ?_
  exact next dn ln ad _ H locs ls ⟨hz, hP, hI, hS, s4, h11⟩ (lv_sub hl [2, 3, 4, 5, 6] rfl)
